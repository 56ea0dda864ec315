/-! quarter turns, judge -/
theorem tn_eq (v0 : Int32) : ∀ (n : Nat) (v1 v2 : Int32), f_X2_turned_4 v0 n v1 v2 = f_X6_turned_4 v0 n v1 v2 := by
  intro n
  induction n with
  | zero => intro v1 v2; rfl
  | succ n ih =>
    intro v1 v2
    rw [f_X2_turned_4_s, f_X6_turned_4_s, Int32.mul_comm (jrem v2 5) 5, ih]
theorem tn_pos : ∀ i, i < 25 → ((((((5 : Int32) * (jrem (nI i) (5 : Int32))) + (5 : Int32)) - (1 : Int32)) - ((nI i) / (5 : Int32)))) = nI (5 * (i % 5) + 4 - i / 5) := by decide +kernel
theorem cr_sb (b : Bool) {p : Nat} (hp : p < 25) : Cr (jshl (nI (if b then 1 else 0)) (nI p)) := by
  cases b
  · exact fun i hi => by
      by_cases q : i < 32
      · rw [bt_jshl (by omega) q]
        show (_ && bt (0 : Int32) _) = false
        rw [b_0, Bool.and_false]
      · exact b_big (by omega)
  · exact cr_one hp
theorem tn_loop {L : Int32} (hL : Cr L) : ∀ (m i n : Nat) (a : Int32), i + m = 25 → m < n → Cr a → ∃ y, f_X6_turned_4 L n a (nI i) = some y ∧ Cr y := by
  intro m
  induction m with
  | zero =>
    intro i n a hi hn ha
    obtain ⟨n, rfl⟩ : ∃ k, n = k + 1 := ⟨n - 1, by omega⟩
    obtain rfl : i = 25 := by omega
    exact ⟨a, by rw [f_X6_turned_4_s, if_pos (by decide)], ha⟩
  | succ m ih =>
    intro i n a hi hn ha
    obtain ⟨n, rfl⟩ : ∃ k, n = k + 1 := ⟨n - 1, by omega⟩
    rw [f_X6_turned_4_s, if_neg (show ¬ (25 : Int32) ≤ nI i from nI_nle' (a := 25) (by decide) (by omega) (by omega)), shr_bit hL (by omega), tn_pos i (by omega), nI_1]
    exact ih (i + 1) n _ (by omega) (by omega) (cr_or ha (cr_sb _ (by omega)))
theorem tn_ex {L : Int32} (hL : Cr L) : ∃ y, f_X6_turned L = some y ∧ Cr y := tn_loop hL 25 0 1000 0 (by decide) (by decide) cr_0
def tr (x : Int32) : Int32 := match f_X6_turned x with | some y => y | none => 0
theorem m_turned {L : Int32} (hL : Cr L) : f_X6_turned L = some (tr L) := by
  obtain ⟨y, e, _⟩ := tn_ex hL
  unfold tr
  rw [e]
theorem x_turned {L : Int32} (hL : Cr L) : f_X2_turned L = some (tr L) := by
  rw [← m_turned hL]
  exact tn_eq L 1000 0 0
theorem cr_tr {L : Int32} (hL : Cr L) : Cr (tr L) := by
  obtain ⟨y, e, h⟩ := tn_ex hL
  unfold tr
  rw [e]
  exact h
def trN : Nat → Int32 → Int32
  | 0, x => x
  | n + 1, x => trN n (tr x)
theorem cr_trN : ∀ (n : Nat) {L : Int32}, Cr L → Cr (trN n L)
  | 0, _, h => h
  | n + 1, _, h => cr_trN n (cr_tr h)
theorem x_turns_loop {k : Nat} (hk : k ≤ 3) : ∀ (m i n : Nat) (L : Int32), i + m = k → m < n → Cr L → f_X0_turnsBy_14 (nI k) n (nI i) L = some ((1 : Int32), trN m L) := by
  intro m
  induction m with
  | zero =>
    intro i n L hi hn hL
    obtain ⟨n, rfl⟩ : ∃ k, n = k + 1 := ⟨n - 1, by omega⟩
    obtain rfl : i = k := by omega
    rw [f_X0_turnsBy_14_s, if_pos (Int32.le_refl _)]
    rfl
  | succ m ih =>
    intro i n L hi hn hL
    obtain ⟨n, rfl⟩ : ∃ k, n = k + 1 := ⟨n - 1, by omega⟩
    rw [f_X0_turnsBy_14_s, if_neg (nI_nle' (by omega) (by omega) (by omega)), x_turned hL, bn_some, nI_1]
    exact ih (i + 1) n _ (by omega) (by omega) (cr_tr hL)
theorem m_turns_loop {k : Nat} (hk : k ≤ 3) : ∀ (m i n : Nat) (L : Int32), i + m = k → m < n → Cr L → f_X6_turnedBy_4 (nI k) n L (nI i) = some (trN m L) := by
  intro m
  induction m with
  | zero =>
    intro i n L hi hn hL
    obtain ⟨n, rfl⟩ : ∃ k, n = k + 1 := ⟨n - 1, by omega⟩
    obtain rfl : i = k := by omega
    rw [f_X6_turnedBy_4_s, if_pos (Int32.le_refl _)]
    rfl
  | succ m ih =>
    intro i n L hi hn hL
    obtain ⟨n, rfl⟩ : ∃ k, n = k + 1 := ⟨n - 1, by omega⟩
    rw [f_X6_turnedBy_4_s, if_neg (nI_nle' (by omega) (by omega) (by omega)), m_turned hL, bn_some, nI_1]
    exact ih (i + 1) n _ (by omega) (by omega) (cr_tr hL)
theorem m_turns {k : Nat} (hk : k ≤ 3) {L : Int32} (hL : Cr L) : f_X6_turnedBy L (nI k) = some (trN k L) := by
  unfold f_X6_turnedBy
  exact m_turns_loop hk k 0 1000 L (by omega) (by omega) hL
theorem x_turns {k : Nat} (h1 : 1 ≤ k) (hk : k ≤ 3) {L : Int32} (hL : Cr L) : f_X0_turnsBy L (nI k) = some ((1 : Int32), trN k L) := by
  unfold f_X0_turnsBy
  rw [if_neg (show ¬ nI k < (1 : Int32) from nI_nlt2 (b := 1) (by omega) (by decide) h1), if_pos (show nI k ≤ (3 : Int32) from nI_le' (b := 3) (by omega) (by decide) hk)]
  exact x_turns_loop hk k 0 1000 L (by omega) (by omega) hL
theorem eq_rolls {tolds : Int32} {hasImage : Int32} {n_heirs : Int32} {n_left : Int32} {n_bitten : Int32} {n_kinds : (Nat → Int32)} {n_figures : (Nat → Int32)} {k_heirs : Int32} {k_left : Int32} {k_bitten : Int32} {k_kinds : (Nat → Int32)} {k_figures : (Nat → Int32)} {t_heirs : Int32} {t_left : Int32} {t_bitten : Int32} {t_kinds : (Nat → Int32)} {t_figures : (Nat → Int32)} {r_gone : Int32} {r_heaps : Int32} {r_fewestCells : Int32} {r_deed : Int32} {c_ways : (Nat → Int32)} {c_fewest : (Nat → Int32)} {c_nextWays : (Nat → Int32)} {c_nextFewest : (Nat → Int32)} {x_length : Int32} {x_letters : (Nat → Int32)} {told : (Nat → Int32)} {refusals : (Nat → Int32)} {ends : (Nat → Int32)} {m_left : Int32} {m_bites : Int32} {m_many : Int32} {m_imageLeft : Int32} {m_imageBites : Int32} {m_imageMany : Int32} {m_wasLeft : Int32} {m_wasBites : Int32} {m_wasMany : Int32} {m_hasImage : Int32} {m_letterMany : Int32} {m_rowMany : Int32} {m_place : Int32} {m_seed : Int32} {m_kind : (Nat → Int32)} {m_figure : (Nat → Int32)} {m_imageKind : (Nat → Int32)} {m_imageFigure : (Nat → Int32)} {m_wasKind : (Nat → Int32)} {m_wasFigure : (Nat → Int32)} {m_letters : (Nat → Int32)} {m_row : (Nat → Int32)} {m_refused : (Nat → Int32)} {m_numbers : (Nat → Int32)} {m_counted : (Nat → Int32)} {m_few : (Nat → Int32)} (hR : RR tolds hasImage n_heirs n_left n_bitten n_kinds n_figures k_heirs k_left k_bitten k_kinds k_figures x_length x_letters told refusals m_left m_bites m_many m_imageLeft m_imageBites m_imageMany m_hasImage m_letterMany m_rowMany m_kind m_figure m_imageKind m_imageFigure m_letters m_row m_refused) (a1 : Int32) : ∃ (o1 : Int32 × Int32 × (Nat → Int32)) (o2 : Int32 × Int32 × (Nat → Int32)), f_X5_rolls n_left refusals a1 = some o1 ∧ f_X6_rolls m_left m_refused a1 = some o2 ∧ o1.1 = o2.1 ∧ RR tolds hasImage n_heirs o1.2.1 n_bitten n_kinds n_figures k_heirs k_left k_bitten k_kinds k_figures x_length x_letters told o1.2.2 o2.2.1 m_bites m_many m_imageLeft m_imageBites m_imageMany m_hasImage m_letterMany m_rowMany m_kind m_figure m_imageKind m_imageFigure m_letters m_row o2.2.2 := by
  have hR0 := hR
  obtain ⟨⟨h, b, K, F, rfl, hL, rfl, rfl, hh, rfl, rfl, hb, hs, hs'⟩, hT, hW, hF, hI⟩ := hR
  unfold f_X5_rolls f_X6_rolls
  by_cases q1 : (1 : Int32) ≤ a1
  · rw [if_pos q1, if_pos q1]
    by_cases q3 : a1 ≤ (3 : Int32)
    · rw [if_pos q3, if_pos q3]
      obtain ⟨k, h1, h3, rfl⟩ : ∃ k, 1 ≤ k ∧ k ≤ 3 ∧ a1 = nI k := by
        rcases rng a1 (n := 3) (by decide) with q | q | ⟨k, hk, rfl⟩
        · exact absurd (Int32.lt_of_lt_of_le q (by decide : (0 : Int32) ≤ 1)) (Int32.not_lt.mpr q1)
        · exact absurd q (Int32.not_lt.mpr q3)
        · exact ⟨k, (nI_leI (a := 1) (by decide) (by omega)).mp q1, hk, rfl⟩
      rw [x_turns h1 h3 hL, m_turns h3 hL, bn_some, bn_some, x_bits (cr_trN k hL), m_bits (cr_trN k hL), bn_some, bn_some]
      exact ⟨_, _, rfl, rfl, rfl, ⟨h, b, K, F, rfl, cr_trN k hL, rfl, rfl, hh, rfl, rfl, hb, hs, hs'⟩, hT, hW, hF, hI⟩
    · rw [if_neg q3, if_neg q3, x_no6, m_no6, bn_some, bn_some]
      exact ⟨_, _, rfl, rfl, rfl, RR_bump hR0 (by decide)⟩
  · rw [if_neg q1, if_neg q1, x_no4, m_no4, bn_some, bn_some]
    exact ⟨_, _, rfl, rfl, rfl, RR_bump hR0 (by decide)⟩
theorem jmin_assoc (a b c : Int32) : jmin (jmin a b) c = jmin a (jmin b c) := by
  have t : ∀ x y : Int32, (jmin x y).toInt = min x.toInt y.toInt := fun x y => by
    unfold jmin
    by_cases h : y < x
    · rw [if_pos h]; rw [Int32.lt_iff_toInt_lt] at h; omega
    · rw [if_neg h]; rw [Int32.lt_iff_toInt_lt] at h; omega
  apply Int32.toInt_inj.mp
  rw [t, t, t, t]
  omega
theorem eq_alike {tolds : Int32} {hasImage : Int32} {n_heirs : Int32} {n_left : Int32} {n_bitten : Int32} {n_kinds : (Nat → Int32)} {n_figures : (Nat → Int32)} {k_heirs : Int32} {k_left : Int32} {k_bitten : Int32} {k_kinds : (Nat → Int32)} {k_figures : (Nat → Int32)} {t_heirs : Int32} {t_left : Int32} {t_bitten : Int32} {t_kinds : (Nat → Int32)} {t_figures : (Nat → Int32)} {r_gone : Int32} {r_heaps : Int32} {r_fewestCells : Int32} {r_deed : Int32} {c_ways : (Nat → Int32)} {c_fewest : (Nat → Int32)} {c_nextWays : (Nat → Int32)} {c_nextFewest : (Nat → Int32)} {x_length : Int32} {x_letters : (Nat → Int32)} {told : (Nat → Int32)} {refusals : (Nat → Int32)} {ends : (Nat → Int32)} {m_left : Int32} {m_bites : Int32} {m_many : Int32} {m_imageLeft : Int32} {m_imageBites : Int32} {m_imageMany : Int32} {m_wasLeft : Int32} {m_wasBites : Int32} {m_wasMany : Int32} {m_hasImage : Int32} {m_letterMany : Int32} {m_rowMany : Int32} {m_place : Int32} {m_seed : Int32} {m_kind : (Nat → Int32)} {m_figure : (Nat → Int32)} {m_imageKind : (Nat → Int32)} {m_imageFigure : (Nat → Int32)} {m_wasKind : (Nat → Int32)} {m_wasFigure : (Nat → Int32)} {m_letters : (Nat → Int32)} {m_row : (Nat → Int32)} {m_refused : (Nat → Int32)} {m_numbers : (Nat → Int32)} {m_counted : (Nat → Int32)} {m_few : (Nat → Int32)} (hR : RR tolds hasImage n_heirs n_left n_bitten n_kinds n_figures k_heirs k_left k_bitten k_kinds k_figures x_length x_letters told refusals m_left m_bites m_many m_imageLeft m_imageBites m_imageMany m_hasImage m_letterMany m_rowMany m_kind m_figure m_imageKind m_imageFigure m_letters m_row m_refused) (a1 : Int32) : ∃ (o1 : Int32 × (Nat → Int32)) (o2 : Int32 × (Nat → Int32)), f_X5_alike n_left refusals a1 = some o1 ∧ f_X6_alike m_left m_refused a1 = some o2 ∧ o1.1 = o2.1 ∧ RR tolds hasImage n_heirs n_left n_bitten n_kinds n_figures k_heirs k_left k_bitten k_kinds k_figures x_length x_letters told o1.2 m_left m_bites m_many m_imageLeft m_imageBites m_imageMany m_hasImage m_letterMany m_rowMany m_kind m_figure m_imageKind m_imageFigure m_letters m_row o2.2 := by
  have hR0 := hR
  obtain ⟨⟨h, b, K, F, rfl, hL, rfl, rfl, hh, rfl, rfl, hb, hs, hs'⟩, hT, hW, hF, hI⟩ := hR
  unfold f_X5_alike f_X6_alike
  have h1 := cr_tr hL
  have h2 := cr_tr h1
  have t1 : f_X6_turnedBy n_left (1 : Int32) = some (tr n_left) := m_turns (k := 1) (by decide) hL
  have t2 : f_X6_turnedBy n_left (2 : Int32) = some (tr (tr n_left)) := m_turns (k := 2) (by decide) hL
  have t3 : f_X6_turnedBy n_left (3 : Int32) = some (tr (tr (tr n_left))) := m_turns (k := 3) (by decide) hL
  rcases two_cases a1 with ⟨e1, e2⟩ | ⟨hv, e1, e2⟩
  · rw [e1, e2, bn_some, bn_some, if_pos rfl, if_pos rfl, x_no2, m_no2, bn_some, bn_some]
    exact ⟨_, _, rfl, rfl, rfl, RR_bump hR0 (by decide)⟩
  · rw [e1, e2, bn_some, bn_some, if_neg (show ¬ (1 : Int32) = 0 by decide), if_neg (show ¬ (1 : Int32) = 0 by decide), x_turned hL, bn_some, x_turned h1, bn_some, x_turned h2, bn_some]
    have s1 : (1 : Int32) + 1 = 2 := by decide
    have s2 : (2 : Int32) + 1 = 3 := by decide
    have s3 : (3 : Int32) + 1 = 4 := by decide
    have loop : ∀ k, f_X6_alike_23 n_left k 1000 n_left (1 : Int32) = k (jmin (jmin (jmin n_left (tr n_left)) (tr (tr n_left))) (tr (tr (tr n_left)))) := fun k => by
      rw [show (1000 : Nat) = 999 + 1 from rfl, f_X6_alike_23_s, if_neg (by decide), t1, bn_some, least_eq, bn_some, s1]
      rw [show (999 : Nat) = 998 + 1 from rfl, f_X6_alike_23_s, if_neg (by decide), t2, bn_some, least_eq, bn_some, s2]
      rw [show (998 : Nat) = 997 + 1 from rfl, f_X6_alike_23_s, if_neg (by decide), t3, bn_some, least_eq, bn_some, s3]
      rw [show (997 : Nat) = 996 + 1 from rfl, f_X6_alike_23_s, if_pos (by decide)]
    rw [loop, t1, t2]
    rcases hv with rfl | rfl
    · rw [if_neg (show ¬ (0 : Int32) = 1 by decide), if_neg (show ¬ (0 : Int32) = 1 by decide), bn_some]
      by_cases q1 : tr n_left = n_left
      · rw [if_pos q1, if_pos q1]
        exact ⟨_, _, rfl, rfl, rfl, hR0⟩
      · rw [if_neg q1, if_neg q1, bn_some]
        by_cases q2 : tr (tr n_left) = n_left
        · rw [if_pos q2, if_pos q2]
          exact ⟨_, _, rfl, rfl, rfl, hR0⟩
        · rw [if_neg q2, if_neg q2]
          exact ⟨_, _, rfl, rfl, rfl, hR0⟩
    · rw [if_pos rfl, if_pos rfl, jmin_assoc (jmin n_left (tr n_left))]
      exact ⟨_, _, rfl, rfl, rfl, hR0⟩
theorem m_isHeir {h i : Nat} (hh : h ≤ 5) (hi : i < 1000) : f_X6_isHeir (nI h) (nI i) = some (nI (if i < h then 1 else 0)) := by
  have e : (nI h - (1 : Int32)).toInt = (h : Int) - 1 := pk_sub_toInt (a := h) (b := 1) (by omega) (by decide)
  unfold f_X6_isHeir
  by_cases q : i < h
  · rw [show (1 : Int32) = nI 1 from rfl, pk_sub (by omega), isIn_yes (by omega) (by omega), bn_some, if_pos q]
    rfl
  · rw [isIn_no2, bn_some, if_neg q]
    · rfl
    · rw [Int32.lt_iff_toInt_lt, e, nI_toInt (by omega)]
      omega
theorem judge_loop {K F : Nat → Nat} {nk nf nk' nf' td rw' : Nat → Int32} (hs : HS K F nk nf) (hs' : HS K F nk' nf') {h t : Nat} (hh : h ≤ 5) (ht : t ≤ 16) {L : Int32} (hL : Cr L) (hr : ∀ i, i < 16 → ∃ c : Nat, c ≤ 99 ∧ td i = nI c ∧ rw' i = nI c) (z : Int32) : ∀ (m i n : Nat), i + m = t → m < n → ∃ v, f_X5_firstWronglyTold_16 (nI t) (nI h) nk nf (gone L) (nI (nh L)) (nI (fw L)) (dd L) td n (nI i) = some (v, gone L, nI (nh L), nI (fw L), dd L) ∧ f_X6_judge_12 (nI t) L (nI h) z nk' nf' rw' n (nI i) = some (v, z) := by
  intro m
  induction m with
  | zero =>
    intro i n hi hn
    obtain ⟨n, rfl⟩ : ∃ k, n = k + 1 := ⟨n - 1, by omega⟩
    obtain rfl : i = t := by omega
    rw [f_X5_firstWronglyTold_16_s, f_X6_judge_12_s, if_pos (Int32.le_refl _), if_pos (Int32.le_refl _)]
    exact ⟨_, rfl, rfl⟩
  | succ m ih =>
    intro i n hi hn
    obtain ⟨n, rfl⟩ : ∃ k, n = k + 1 := ⟨n - 1, by omega⟩
    have lt : ¬ nI t ≤ nI i := nI_nle' (by omega) (by omega) (by omega)
    rw [f_X5_firstWronglyTold_16_s, f_X6_judge_12_s, if_neg lt, if_neg lt, m_isHeir hh (by omega), bn_some]
    by_cases q : i < h
    · obtain ⟨c, hc, e1, e2⟩ := hr i (by omega)
      rw [if_neg (nI_nle' (by omega) (by omega) q), if_pos q, if_neg (by decide), x_readShare hs (by omega) hL, bn_some, m_shareOf hs' (by omega) hL, bn_some, inb_nI (by omega) (by decide), ck_true, ck_true, nI_clamp (by omega), e1, e2]
      by_cases w : nI (sh K F i L) = nI c
      · rw [if_pos w, if_pos w, nI_1]
        exact ih (i + 1) n (by omega) (by omega)
      · rw [if_neg w, if_neg w]
        exact ⟨_, rfl, rfl⟩
    · rw [if_pos (nI_le' (by omega) (by omega) (by omega)), if_neg q, if_pos (by rfl)]
      exact ⟨_, rfl, rfl⟩
theorem eq_judge {tolds : Int32} {hasImage : Int32} {n_heirs : Int32} {n_left : Int32} {n_bitten : Int32} {n_kinds : (Nat → Int32)} {n_figures : (Nat → Int32)} {k_heirs : Int32} {k_left : Int32} {k_bitten : Int32} {k_kinds : (Nat → Int32)} {k_figures : (Nat → Int32)} {t_heirs : Int32} {t_left : Int32} {t_bitten : Int32} {t_kinds : (Nat → Int32)} {t_figures : (Nat → Int32)} {r_gone : Int32} {r_heaps : Int32} {r_fewestCells : Int32} {r_deed : Int32} {c_ways : (Nat → Int32)} {c_fewest : (Nat → Int32)} {c_nextWays : (Nat → Int32)} {c_nextFewest : (Nat → Int32)} {x_length : Int32} {x_letters : (Nat → Int32)} {told : (Nat → Int32)} {refusals : (Nat → Int32)} {ends : (Nat → Int32)} {m_left : Int32} {m_bites : Int32} {m_many : Int32} {m_imageLeft : Int32} {m_imageBites : Int32} {m_imageMany : Int32} {m_wasLeft : Int32} {m_wasBites : Int32} {m_wasMany : Int32} {m_hasImage : Int32} {m_letterMany : Int32} {m_rowMany : Int32} {m_place : Int32} {m_seed : Int32} {m_kind : (Nat → Int32)} {m_figure : (Nat → Int32)} {m_imageKind : (Nat → Int32)} {m_imageFigure : (Nat → Int32)} {m_wasKind : (Nat → Int32)} {m_wasFigure : (Nat → Int32)} {m_letters : (Nat → Int32)} {m_row : (Nat → Int32)} {m_refused : (Nat → Int32)} {m_numbers : (Nat → Int32)} {m_counted : (Nat → Int32)} {m_few : (Nat → Int32)} (hR : RR tolds hasImage n_heirs n_left n_bitten n_kinds n_figures k_heirs k_left k_bitten k_kinds k_figures x_length x_letters told refusals m_left m_bites m_many m_imageLeft m_imageBites m_imageMany m_hasImage m_letterMany m_rowMany m_kind m_figure m_imageKind m_imageFigure m_letters m_row m_refused) : ∃ (o1 : Int32 × Int32 × Int32 × Int32 × Int32 × Int32) (o2 : Int32 × Int32), f_X5_judge tolds n_heirs n_left n_kinds n_figures told = some o1 ∧ f_X6_judge m_left m_many m_rowMany m_kind m_figure m_row = some o2 ∧ o1.1 = o2.1 ∧ RR o1.2.1 hasImage n_heirs n_left n_bitten n_kinds n_figures k_heirs k_left k_bitten k_kinds k_figures x_length x_letters told refusals m_left m_bites m_many m_imageLeft m_imageBites m_imageMany m_hasImage m_letterMany o2.2 m_kind m_figure m_imageKind m_imageFigure m_letters m_row m_refused := by
  obtain ⟨⟨h, b, K, F, rfl, hL, rfl, rfl, hh, rfl, rfl, hb, hs, hs'⟩, ⟨t, ht, rfl, rfl, hr⟩, hW, hF, hI⟩ := hR
  unfold f_X5_judge f_X6_judge f_X5_firstWronglyTold
  rw [x_reads hL, bn_some]
  obtain ⟨v, e1, e2⟩ := judge_loop hs hs' hh ht hL hr 0 t 0 1000 (by omega) (by omega)
  rw [← show (0 : Int32) = nI 0 from rfl] at e1 e2
  rw [e1, e2, bn_some]
  exact ⟨_, _, rfl, rfl, rfl, ⟨h, b, K, F, rfl, hL, rfl, rfl, hh, rfl, rfl, hb, hs, hs'⟩, ⟨0, by decide, rfl, rfl, hr⟩, hW, hF, hI⟩
