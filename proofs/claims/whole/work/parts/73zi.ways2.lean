/-! ways: all states of one layer -/
abbrev WO : Type := Int32 × (Nat → Int32) × (Nat → Int32) × (Nat → Int32)
theorem bit_t : ∀ t, t < 64 → bt (nI t) 0 = decide (t % 2 = 1) := by decide +kernel
theorem ways_state {L : Int32} (hL : Cr L) {c t k : Nat} (hc : c < 25) (ht : t < 64) (hk : k ≤ c) {w f nw nf mc mf : Nat → Int32} (P : PR c w f nw nf mc mf) (hf : f t = nI k) (hm : mf (128 * c + t) = nI k) (km : ((Nat → Int32) × (Nat → Int32)) → Option WO) (n : Nat) : ∃ nw' nf' mc' mf', f_X1_goesOn w f nw nf (nI t) (nI c) L = some (nw', nf') ∧ f_X6_ways_81 (gap L) (nI c) km (n + 1) (nI t) mc mf = f_X6_ways_81 (gap L) (nI c) km n (nI (t + 1)) mc' mf' ∧ PR c w f nw' nf' mc' mf' ∧ (RC (c + 1) nf → RC (c + 1) nf') ∧ (t = 0 → RC (c + 1) nf') := by
  have h0 : f_X6_has (nI t) (0 : Int32) = some (nI (if bt (nI t) 0 then 1 else 0)) := m_has (x := nI t) (cr_nI (by omega)) (k := 0) (by decide)
  have hgc : f_X6_has (gap L) (nI c) = some (nI (if bt (gap L) c then 1 else 0)) := m_has (cr_gap L) (k := c) (by omega)
  obtain ⟨nw1, nf1, mc1, mf1, c1, c2, P1, r1, r2⟩ := comes (t := t / 2) (k := k) hc (by omega) (by omega) P (w t)
  have nfar : ¬ nI k = (1000000000 : Int32) := nI_neq (b := 1000000000) (by omega) (by decide) (by omega)
  have mx : f_X6_ways_81 (gap L) (nI c) km (n + 1) (nI t) mc mf = (bn (f_X6_has (nI t) (0 : Int32)) (fun (r11 : Int32) => bn (if r11 = 0 then (bn (f_X6_has (gap L) (nI c)) (fun (r18 : Int32) => if r18 = 0 then (some (mc1, mf1)) else (some (mc, mf)))) else (some (mc1, mf1))) (fun (j13 : (Nat → Int32) × (Nat → Int32)) => f_X6_ways_159 (gap L) (nI c) (nI t) (nI (128 * c + t)) (fun (e47 : (Nat → Int32) × (Nat → Int32)) => f_X6_ways_81 (gap L) (nI c) km n (nI t + (1 : Int32)) e47.1 e47.2) 4000 (0 : Int32) j13.1 j13.2))) := by
    rw [f_X6_ways_81_s, if_neg (show ¬ (128 : Int32) ≤ nI t from nI_nle' (a := 128) (by decide) (by omega) (by omega)), show (128 : Int32) = nI 128 from rfl, pk_mul, nI_add, inb_nI (show 128 * c + t < 3328 by omega) (by decide), ck_true, nI_clamp (show 128 * c + t < 2 ^ 31 by omega), hm, if_neg nfar, nI_1 c, half_t t ht, ← (P.1 t ht).1, c2]
    rfl
  have gx : f_X1_goesOn w f nw nf (nI t) (nI c) L = (if nI (if bt (nI t) 0 then 1 else 0) = 0 then (if nI (if bt L c then 1 else 0) = 0 then (f_X1_goesOn_37 (nI t) (nI c) L w f 1000 (0 : Int32) nw nf) else (some (nw1, nf1))) else (some (nw1, nf1))) := by
    unfold f_X1_goesOn
    rw [nI_bit (nI t), shr_bit hL (by omega), inb_nI ht (by decide), ck_true, ck_true, nI_clamp (show t < 2 ^ 31 by omega), half_t t ht, hf, c1]
    rfl
  have quit : ∀ g1 g2 : Nat → Int32, (bt (nI t) 0 = true ∨ bt L c = true) → f_X6_ways_159 (gap L) (nI c) (nI t) (nI (128 * c + t)) (fun (e47 : (Nat → Int32) × (Nat → Int32)) => f_X6_ways_81 (gap L) (nI c) km n (nI t + (1 : Int32)) e47.1 e47.2) 4000 (0 : Int32) g1 g2 = f_X6_ways_81 (gap L) (nI c) km n (nI (t + 1)) g1 g2 := fun g1 g2 hq => by
    rw [show (4000 : Nat) = 3999 + 1 from rfl, f_X6_ways_159_s, if_neg (show ¬ (4 : Int32) ≤ 0 by decide), hgc, bn_some, h0, bn_some, nI_1]
    rw [bt_gap hc]
    cases e1 : bt L c with
    | true => rw [if_pos (show nI (if (!true) = true then 1 else 0) = 0 from rfl)]
    | false =>
      rcases hq with e2 | e2
      · rw [e2, if_neg (show ¬ nI (if (!false) = true then 1 else 0) = 0 by decide), if_neg (show ¬ nI (if true = true then 1 else 0) = 0 by decide)]
      · rw [e1] at e2; cases e2
  rw [mx, gx, h0, bn_some]
  cases e2 : bt (nI t) 0 with
  | true =>
    rw [if_neg (show ¬ nI (if true = true then 1 else 0) = 0 by decide), if_neg (show ¬ nI (if true = true then 1 else 0) = 0 by decide), bn_some, quit _ _ (Or.inl e2)]
    exact ⟨nw1, nf1, mc1, mf1, rfl, rfl, P1, r1, fun q => r2 (by omega)⟩
  | false =>
    rw [if_pos (show nI (if false = true then 1 else 0) = 0 from rfl), if_pos (show nI (if false = true then 1 else 0) = 0 from rfl), hgc, bn_some, bt_gap hc]
    cases e1 : bt L c with
    | true =>
      rw [if_neg (show ¬ nI (if true = true then 1 else 0) = 0 by decide), if_pos (show nI (if (!true) = true then 1 else 0) = 0 from rfl), bn_some, quit _ _ (Or.inr e1)]
      exact ⟨nw1, nf1, mc1, mf1, rfl, rfl, P1, r1, fun q => r2 (by omega)⟩
    | false =>
      obtain ⟨nw', nf', mc', mf', i1, i2, i3, i4, i5⟩ := ways_shapes hL hc ht hk e2 e1 hf (fun (e47 : (Nat → Int32) × (Nat → Int32)) => f_X6_ways_81 (gap L) (nI c) km n (nI t + (1 : Int32)) e47.1 e47.2) 4 0 1000 4000 nw nf mc mf rfl (by decide) (by decide) P hm
      rw [show nI 0 = (0 : Int32) from rfl] at i1 i2
      rw [if_pos (show nI (if false = true then 1 else 0) = 0 from rfl), if_neg (show ¬ nI (if (!false) = true then 1 else 0) = 0 by decide), bn_some, i1, i2, nI_1]
      exact ⟨nw', nf', mc', mf', rfl, rfl, i3, i4, fun q => i5 rfl q⟩
theorem ways_layer {L : Int32} (hL : Cr L) {c : Nat} (hc : c < 25) {w f : Nat → Int32} (kx : ((Nat → Int32) × (Nat → Int32)) → Option ((Nat → Int32) × (Nat → Int32) × (Nat → Int32) × (Nat → Int32))) (km : ((Nat → Int32) × (Nat → Int32)) → Option WO) : ∀ (m t n n' : Nat) (nw nf mc mf : Nat → Int32), t + m = 64 → m < n → m + 64 < n' → PR c w f nw nf mc mf → ∃ nw' nf' mc' mf' n2, 64 < n2 ∧ f_X1_covers_25 L (nI c) w f kx n (nI t) nw nf = kx (nw', nf') ∧ f_X6_ways_81 (gap L) (nI c) km n' (nI t) mc mf = f_X6_ways_81 (gap L) (nI c) km n2 (nI 64) mc' mf' ∧ PR c w f nw' nf' mc' mf' ∧ (RC (c + 1) nf → RC (c + 1) nf') ∧ (t = 0 → RC c f → RC (c + 1) nf') := by
  intro m
  induction m with
  | zero =>
    intro t n n' nw nf mc mf hi hn hn' P
    obtain ⟨n, rfl⟩ := fuel hn
    obtain rfl : t = 64 := by omega
    rw [f_X1_covers_25_s, if_pos (by decide)]
    exact ⟨nw, nf, mc, mf, n', by omega, rfl, rfl, P, id, fun q => by omega⟩
  | succ m ih =>
    intro t n n' nw nf mc mf hi hn hn' P
    obtain ⟨n, rfl⟩ := fuel hn
    obtain ⟨n', rfl⟩ := fuel hn'
    have ht : t < 64 := by omega
    rw [f_X1_covers_25_s, if_neg (show ¬ (64 : Int32) ≤ nI t from nI_nle' (a := 64) (by decide) (by omega) (by omega)), inb_nI ht (by decide), ck_true, nI_clamp (show t < 2 ^ 31 by omega), nI_1]
    rcases (P.1 t ht).2 with ⟨q1, q2⟩ | ⟨k, hk, q1, q2⟩
    · rw [q1, if_pos (Int32.le_refl _), bn_some]
      have mx : f_X6_ways_81 (gap L) (nI c) km (n' + 1) (nI t) mc mf = f_X6_ways_81 (gap L) (nI c) km n' (nI (t + 1)) mc mf := by
        rw [f_X6_ways_81_s, if_neg (show ¬ (128 : Int32) ≤ nI t from nI_nle' (a := 128) (by decide) (by omega) (by omega)), show (128 : Int32) = nI 128 from rfl, pk_mul, nI_add, inb_nI (show 128 * c + t < 3328 by omega) (by decide), ck_true, nI_clamp (show 128 * c + t < 2 ^ 31 by omega), q2, if_pos rfl, nI_1]
      rw [mx]
      obtain ⟨nw', nf', mc', mf', n2, i0, i1, i2, i3, i4, i5⟩ := ih (t + 1) n n' nw nf mc mf (by omega) (by omega) (by omega) P
      refine ⟨nw', nf', mc', mf', n2, i0, i1, i2, i3, i4, fun z r => ?_⟩
      subst z
      obtain ⟨k, h1, h2⟩ := r
      rw [q1] at h2
      exact absurd h2.symm (nI_neq (b := 1000) (by omega) (by decide) (by omega))
    · obtain ⟨nw1, nf1, mc1, mf1, s1, s2, s3, s4, s5⟩ := ways_state hL hc ht hk P q1 q2 km n'
      rw [q1, if_neg (show ¬ (1000 : Int32) ≤ nI k from nI_nle' (a := 1000) (by decide) (by omega) (by omega)), s1, bn_some, bn_some, s2]
      obtain ⟨nw', nf', mc', mf', n2, i0, i1, i2, i3, i4, i5⟩ := ih (t + 1) n n' nw1 nf1 mc1 mf1 (by omega) (by omega) (by omega) s3
      exact ⟨nw', nf', mc', mf', n2, i0, i1, i2, i3, fun z => i4 (s4 z), fun z _ => i4 (s5 z)⟩
theorem ways_high {L : Int32} {c : Nat} (hc : c < 25) (km : ((Nat → Int32) × (Nat → Int32)) → Option WO) {mc mf : Nat → Int32} (h : HI c mf) : ∀ (m t n : Nat), t + m = 128 → m < n → 64 ≤ t → f_X6_ways_81 (gap L) (nI c) km n (nI t) mc mf = km (mc, mf) := by
  intro m
  induction m with
  | zero =>
    intro t n hi hn h64
    obtain ⟨n, rfl⟩ := fuel hn
    obtain rfl : t = 128 := by omega
    rw [f_X6_ways_81_s, if_pos (by decide)]
  | succ m ih =>
    intro t n hi hn h64
    obtain ⟨n, rfl⟩ := fuel hn
    rw [f_X6_ways_81_s, if_neg (show ¬ (128 : Int32) ≤ nI t from nI_nle' (a := 128) (by decide) (by omega) (by omega)), show (128 : Int32) = nI 128 from rfl, pk_mul, nI_add, inb_nI (show 128 * c + t < 3328 by omega) (by decide), ck_true, nI_clamp (show 128 * c + t < 2 ^ 31 by omega), h t h64 (by omega), if_pos rfl, nI_1]
    exact ih (t + 1) n (by omega) (by omega) (by omega)
/-! ways: all layers -/
theorem empt_loop : ∀ (m i n : Nat) (g1 g2 : Nat → Int32), i + m = 64 → m < n → (∀ j, j < i → g1 j = 0 ∧ g2 j = (1000 : Int32)) → ∃ z1 z2, f_X1_empties_2 n (nI i) g1 g2 = some (z1, z2) ∧ ∀ j, j < 64 → z1 j = 0 ∧ z2 j = (1000 : Int32) := by
  intro m
  induction m with
  | zero =>
    intro i n g1 g2 hi hn hg
    obtain ⟨n, rfl⟩ := fuel hn
    obtain rfl : i = 64 := by omega
    rw [f_X1_empties_2_s, if_pos (by decide)]
    exact ⟨g1, g2, rfl, hg⟩
  | succ m ih =>
    intro i n g1 g2 hi hn hg
    obtain ⟨n, rfl⟩ := fuel hn
    rw [f_X1_empties_2_s, if_neg (show ¬ (64 : Int32) ≤ nI i from nI_nle' (a := 64) (by decide) (by omega) (by omega)), inb_nI (show i < 64 by omega) (by decide), ck_true, ck_true, nI_clamp (show i < 2 ^ 31 by omega), nI_1]
    refine ih (i + 1) n _ _ (by omega) (by omega) (fun j hj => ?_)
    unfold upd
    by_cases q : j = i
    · rw [if_pos q, if_pos q]; exact ⟨rfl, rfl⟩
    · rw [if_neg q, if_neg q]; exact hg j (by omega)
theorem empt (g1 g2 : Nat → Int32) : ∃ z1 z2, f_X1_empties g1 g2 = some (z1, z2) ∧ ∀ j, j < 64 → z1 j = 0 ∧ z2 j = (1000 : Int32) := empt_loop 64 0 1000 g1 g2 rfl (by decide) (fun j hj => absurd hj (Nat.not_lt_zero j))
theorem clear_loop (k : ((Nat → Int32) × (Nat → Int32)) → Option WO) : ∀ (m i n : Nat) (g1 g2 : Nat → Int32), i + m = 3328 → m < n → (∀ j, j < i → g1 j = 0 ∧ g2 j = (1000000000 : Int32)) → ∃ z1 z2, f_X6_ways_28 k n (nI i) g1 g2 = k (z1, z2) ∧ ∀ j, j < 3328 → z1 j = 0 ∧ z2 j = (1000000000 : Int32) := by
  intro m
  induction m with
  | zero =>
    intro i n g1 g2 hi hn hg
    obtain ⟨n, rfl⟩ := fuel hn
    obtain rfl : i = 3328 := by omega
    rw [f_X6_ways_28_s, if_pos (by decide)]
    exact ⟨g1, g2, rfl, hg⟩
  | succ m ih =>
    intro i n g1 g2 hi hn hg
    obtain ⟨n, rfl⟩ := fuel hn
    rw [f_X6_ways_28_s, if_neg (show ¬ (3328 : Int32) ≤ nI i from nI_nle' (a := 3328) (by decide) (by omega) (by omega)), inb_nI (show i < 3328 by omega) (by decide), ck_true, ck_true, nI_clamp (show i < 2 ^ 31 by omega), nI_1]
    refine ih (i + 1) n _ _ (by omega) (by omega) (fun j hj => ?_)
    unfold upd
    by_cases q : j = i
    · rw [if_pos q, if_pos q]; exact ⟨rfl, rfl⟩
    · rw [if_neg q, if_neg q]; exact hg j (by omega)
theorem ways_all {L : Int32} (hL : Cr L) (km : ((Nat → Int32) × (Nat → Int32)) → Option WO) : ∀ (m c n n' : Nat) (w0 f0 nw nf mc mf : Nat → Int32), c + m = 25 → m < n → m < n' → LR c nw nf mc mf → HI c mf → UT (c + 1) mc mf → RC c nf → ∃ (rw0 rf0 g1 g2 mc' mf' : Nat → Int32), f_X1_covers_13 L n (nI c) w0 f0 nw nf = some (rw0, rf0, g1, g2) ∧ f_X6_ways_72 (gap L) km n' (nI c) mc mf = km (mc', mf') ∧ LR 25 rw0 rf0 mc' mf' ∧ RC 25 rf0 := by
  intro m
  induction m with
  | zero =>
    intro c n n' w0 f0 nw nf mc mf hi hn hn' h1 h2 h3 h4
    obtain ⟨n, rfl⟩ := fuel hn
    obtain ⟨n', rfl⟩ := fuel hn'
    obtain rfl : c = 25 := by omega
    obtain ⟨z1, z2, ez, _⟩ := empt w0 f0
    rw [f_X1_covers_13_s, if_pos (by decide), f_X6_ways_72_s, if_pos (by decide)]
    unfold f_X1_steps
    rw [ez, bn_some, bn_some]
    exact ⟨nw, nf, z1, z2, mc, mf, rfl, rfl, h1, h4⟩
  | succ m ih =>
    intro c n n' w0 f0 nw nf mc mf hi hn hn' h1 h2 h3 h4
    obtain ⟨n, rfl⟩ := fuel hn
    obtain ⟨n', rfl⟩ := fuel hn'
    have hc : c < 25 := by omega
    obtain ⟨z1, z2, ez, hz⟩ := empt w0 f0
    have P : PR c nw nf z1 z2 mc mf := by
      refine ⟨h1, h2, fun s hs => ?_, fun s a b => (h3 _ (by omega) (by omega)).2, fun i a b => h3 i (by omega) b⟩
      obtain ⟨u1, u2⟩ := h3 (128 * (c + 1) + s) (by omega) (by omega)
      rw [u1, u2, (hz s hs).1, (hz s hs).2]
      exact ⟨rfl, Or.inl ⟨rfl, rfl⟩⟩
    rw [f_X1_covers_13_s, if_neg (show ¬ (25 : Int32) ≤ nI c from nI_nle' (a := 25) (by decide) (by omega) (by omega)), f_X6_ways_72_s, if_neg (show ¬ (25 : Int32) ≤ nI c from nI_nle' (a := 25) (by decide) (by omega) (by omega))]
    unfold f_X1_steps
    rw [ez, bn_some, bn_some]
    obtain ⟨nw', nf', mc', mf', n2, i0, i1, i2, i3, i4, i5⟩ := ways_layer hL hc (w := nw) (f := nf) (fun (e18 : (Nat → Int32) × (Nat → Int32)) => f_X1_covers_13 L n (nI c + (1 : Int32)) nw nf e18.1 e18.2) (fun (e73 : (Nat → Int32) × (Nat → Int32)) => f_X6_ways_72 (gap L) km n' (nI c + (1 : Int32)) e73.1 e73.2) 64 0 1000 4000 z1 z2 mc mf rfl (by decide) (by decide) P
    rw [show nI 0 = (0 : Int32) from rfl] at i1 i2
    rw [i1, i2, ways_high hc _ i3.2.1 64 64 n2 rfl i0 (by decide), nI_1]
    exact ih (c + 1) n n' nw nf nw' nf' mc' mf' (by omega) (by omega) (by omega) i3.2.2.1 i3.2.2.2.1 i3.2.2.2.2 (i5 rfl h4)
theorem eq_ways {tolds : Int32} {hasImage : Int32} {n_heirs : Int32} {n_left : Int32} {n_bitten : Int32} {n_kinds : (Nat → Int32)} {n_figures : (Nat → Int32)} {k_heirs : Int32} {k_left : Int32} {k_bitten : Int32} {k_kinds : (Nat → Int32)} {k_figures : (Nat → Int32)} {t_heirs : Int32} {t_left : Int32} {t_bitten : Int32} {t_kinds : (Nat → Int32)} {t_figures : (Nat → Int32)} {r_gone : Int32} {r_heaps : Int32} {r_fewestCells : Int32} {r_deed : Int32} {c_ways : (Nat → Int32)} {c_fewest : (Nat → Int32)} {c_nextWays : (Nat → Int32)} {c_nextFewest : (Nat → Int32)} {x_length : Int32} {x_letters : (Nat → Int32)} {told : (Nat → Int32)} {refusals : (Nat → Int32)} {ends : (Nat → Int32)} {m_left : Int32} {m_bites : Int32} {m_many : Int32} {m_imageLeft : Int32} {m_imageBites : Int32} {m_imageMany : Int32} {m_wasLeft : Int32} {m_wasBites : Int32} {m_wasMany : Int32} {m_hasImage : Int32} {m_letterMany : Int32} {m_rowMany : Int32} {m_place : Int32} {m_seed : Int32} {m_kind : (Nat → Int32)} {m_figure : (Nat → Int32)} {m_imageKind : (Nat → Int32)} {m_imageFigure : (Nat → Int32)} {m_wasKind : (Nat → Int32)} {m_wasFigure : (Nat → Int32)} {m_letters : (Nat → Int32)} {m_row : (Nat → Int32)} {m_refused : (Nat → Int32)} {m_numbers : (Nat → Int32)} {m_counted : (Nat → Int32)} {m_few : (Nat → Int32)} (hR : RR tolds hasImage n_heirs n_left n_bitten n_kinds n_figures k_heirs k_left k_bitten k_kinds k_figures x_length x_letters told refusals m_left m_bites m_many m_imageLeft m_imageBites m_imageMany m_hasImage m_letterMany m_rowMany m_kind m_figure m_imageKind m_imageFigure m_letters m_row m_refused) (a1 : Int32) : ∃ (o1 : Int32 × (Nat → Int32) × (Nat → Int32) × (Nat → Int32) × (Nat → Int32) × (Nat → Int32)) (o2 : Int32 × (Nat → Int32) × (Nat → Int32) × (Nat → Int32)), f_X5_ways n_left c_ways c_fewest c_nextWays c_nextFewest refusals a1 = some o1 ∧ f_X6_ways m_left m_refused m_counted m_few a1 = some o2 ∧ o1.1 = o2.1 ∧ RR tolds hasImage n_heirs n_left n_bitten n_kinds n_figures k_heirs k_left k_bitten k_kinds k_figures x_length x_letters told o1.2.2.2.2.2 m_left m_bites m_many m_imageLeft m_imageBites m_imageMany m_hasImage m_letterMany m_rowMany m_kind m_figure m_imageKind m_imageFigure m_letters m_row o2.2.1 := by
  have hR0 := hR
  obtain ⟨⟨h, b, K, F, rfl, hL, rfl, rfl, hh, rfl, rfl, hb, hs, hs'⟩, hT, hW, hF, hI⟩ := hR
  unfold f_X5_ways f_X6_ways
  rcases two_cases a1 with ⟨e1, e2⟩ | ⟨hv, e1, e2⟩
  · rw [e1, e2, bn_some, bn_some, if_pos rfl, if_pos rfl, x_no2, m_no2, bn_some, bn_some]
    exact ⟨_, _, rfl, rfl, rfl, RR_bump hR0 (by decide)⟩
  · rw [e1, e2, bn_some, bn_some, if_neg (show ¬ (1 : Int32) = 0 by decide), if_neg (show ¬ (1 : Int32) = 0 by decide)]
    obtain ⟨y1, y2, ey, hy⟩ := empt c_nextWays c_nextFewest
    have ex : f_X1_covers c_ways c_fewest c_nextWays c_nextFewest n_left = f_X1_covers_13 n_left 1000 (0 : Int32) c_ways c_fewest (upd y1 0 (1 : Int32)) (upd y2 0 (0 : Int32)) := by
      unfold f_X1_covers f_X1_comesTo
      rw [ey, bn_some, if_neg (show ¬ (0 : Int32) < 0 by decide), if_pos (show (0 : Int32) < (64 : Int32) by decide), show inb (0 : Int32) 64 = true from by decide, ck_true, ck_true, ck_true, ck_true, bn_some, z0]
      show f_X1_covers_13 n_left 1000 (0 : Int32) c_ways c_fewest (upd y1 0 (jrem (y1 0 + (1 : Int32)) (1000003 : Int32))) (upd y2 0 (jmin (y2 0) (0 : Int32))) = _
      rw [(hy 0 (by decide)).1, (hy 0 (by decide)).2, show jrem ((0 : Int32) + 1) (1000003 : Int32) = 1 by decide, show jmin (1000 : Int32) (0 : Int32) = 0 by decide]
    let km : ((Nat → Int32) × (Nat → Int32)) → Option WO := fun (e120 : (Nat → Int32) × (Nat → Int32)) => if a1 = 0 then (ck (inb (3200 : Int32) 3328) (some (e120.1 (3200 : Int32).toNatClampNeg, m_refused, e120.1, e120.2))) else (ck (inb (3200 : Int32) 3328) (some (e120.2 (3200 : Int32).toNatClampNeg, m_refused, e120.1, e120.2)))
    obtain ⟨g1, g2, eg, hg⟩ := clear_loop (fun (e7 : (Nat → Int32) × (Nat → Int32)) => ck (inb (0 : Int32) 3328) (ck (inb (0 : Int32) 3328) (f_X6_ways_72 (gap n_left) km 4000 (0 : Int32) (upd e7.1 (0 : Int32).toNatClampNeg (1 : Int32)) (upd e7.2 (0 : Int32).toNatClampNeg (0 : Int32))))) 3328 0 4000 m_counted m_few rfl (by decide) (fun j hj => absurd hj (Nat.not_lt_zero j))
    have u : ∀ (g : Nat → Int32) (j : Nat) (v : Int32), j ≠ 0 → upd g 0 v j = g j := fun g j v q => by unfold upd; rw [if_neg q]
    have us : ∀ (g : Nat → Int32) (v : Int32), upd g 0 v 0 = v := fun g v => by unfold upd; rw [if_pos rfl]
    have i1 : LR 0 (upd y1 0 (1 : Int32)) (upd y2 0 (0 : Int32)) (upd g1 0 (1 : Int32)) (upd g2 0 (0 : Int32)) := fun s hs => by
      rw [Nat.mul_zero, Nat.zero_add]
      by_cases q : s = 0
      · subst q
        rw [us, us, us, us]
        exact ⟨rfl, Or.inr ⟨0, Nat.le_refl _, rfl, rfl⟩⟩
      · rw [u _ _ _ q, u _ _ _ q, u _ _ _ q, u _ _ _ q, (hy s hs).1, (hy s hs).2, (hg s (by omega)).1, (hg s (by omega)).2]
        exact ⟨rfl, Or.inl ⟨rfl, rfl⟩⟩
    have i2 : HI 0 (upd g2 0 (0 : Int32)) := fun s h1 h2 => by
      rw [u _ _ _ (show 128 * 0 + s ≠ 0 by omega)]
      exact (hg _ (by omega)).2
    have i3 : UT (0 + 1) (upd g1 0 (1 : Int32)) (upd g2 0 (0 : Int32)) := fun i h1 h2 => by
      rw [u _ _ _ (show i ≠ 0 by omega), u _ _ _ (show i ≠ 0 by omega)]
      exact hg i h2
    have i4 : RC 0 (upd y2 0 (0 : Int32)) := ⟨0, Nat.le_refl _, us _ _⟩
    obtain ⟨rw0, rf0, q1, q2, mc', mf', a1', a2', a3', a4'⟩ := ways_all hL km 25 0 1000 4000 c_ways c_fewest _ _ _ _ rfl (by decide) (by decide) i1 i2 i3 i4
    rw [show nI 0 = (0 : Int32) from rfl] at a1' a2' eg
    have em : f_X6_ways_28 (fun (e7 : (Nat → Int32) × (Nat → Int32)) => ck (inb (0 : Int32) 3328) (ck (inb (0 : Int32) 3328) (f_X6_ways_72 ((33554431 : Int32) &&& (n_left ^^^ (-1 : Int32))) (fun (e120 : (Nat → Int32) × (Nat → Int32)) => if a1 = 0 then (ck (inb (3200 : Int32) 3328) (some (e120.1 (3200 : Int32).toNatClampNeg, m_refused, e120.1, e120.2))) else (ck (inb (3200 : Int32) 3328) (some (e120.2 (3200 : Int32).toNatClampNeg, m_refused, e120.1, e120.2)))) 4000 (0 : Int32) (upd e7.1 (0 : Int32).toNatClampNeg (1 : Int32)) (upd e7.2 (0 : Int32).toNatClampNeg (0 : Int32))))) 4000 (0 : Int32) m_counted m_few = km (mc', mf') := by
      refine Eq.trans eg ?_
      show ck (inb (0 : Int32) 3328) (ck (inb (0 : Int32) 3328) (f_X6_ways_72 (gap n_left) km 4000 (0 : Int32) (upd g1 (0 : Int32).toNatClampNeg (1 : Int32)) (upd g2 (0 : Int32).toNatClampNeg (0 : Int32)))) = _
      rw [show inb (0 : Int32) 3328 = true from by decide, ck_true, ck_true, z0]
      exact a2'
    have l0 := a3' 0 (by decide)
    rw [show 128 * 25 + 0 = 3200 by decide] at l0
    have f0 : rf0 0 = mf' 3200 := by
      obtain ⟨k, k1, k2⟩ := a4'
      rcases l0.2 with ⟨q1, q2⟩ | ⟨k', h1, h2, h3⟩
      · rw [k2] at q1
        exact absurd q1 (nI_neq (b := 1000) (by omega) (by decide) (by omega))
      · rw [h2, h3]
    rw [ex, a1', bn_some, em]
    unfold f_X1_waysDone f_X1_fewDone
    rw [show inb (0 : Int32) 64 = true from by decide, ck_true, ck_true, z0, bn_some, bn_some]
    have k3 : (3200 : Int32).toNatClampNeg = 3200 := by decide
    rcases hv with rfl | rfl
    · rw [if_pos rfl]
      have e : km (mc', mf') = some (mc' 3200, m_refused, mc', mf') := by
        show (if (0 : Int32) = 0 then (ck (inb (3200 : Int32) 3328) (some (mc' (3200 : Int32).toNatClampNeg, m_refused, mc', mf'))) else _) = _
        rw [if_pos rfl, show inb (3200 : Int32) 3328 = true from by decide, ck_true, k3]
      rw [e]
      exact ⟨_, _, rfl, rfl, l0.1, hR0⟩
    · rw [if_neg (show ¬ (1 : Int32) = 0 by decide)]
      have e : km (mc', mf') = some (mf' 3200, m_refused, mc', mf') := by
        show (if (1 : Int32) = 0 then _ else (ck (inb (3200 : Int32) 3328) (some (mf' (3200 : Int32).toNatClampNeg, m_refused, mc', mf')))) = _
        rw [if_neg (show ¬ (1 : Int32) = 0 by decide), show inb (3200 : Int32) 3328 = true from by decide, ck_true, k3]
      rw [e]
      exact ⟨_, _, rfl, rfl, f0, hR0⟩
