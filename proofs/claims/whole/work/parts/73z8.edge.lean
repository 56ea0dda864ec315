/-! edge: the open sides -/
theorem ct_one0 : ∀ a, a < 25 → ∀ z : Bool, fb_ct (fun k => decide (k = a) && z) 25 = if z then 1 else 0 := by decide +kernel
theorem ct_at {a : Nat} {z : Bool} (h : 25 ≤ a → z = false) : fb_ct (fun k => decide (k = a) && z) 25 = if z then 1 else 0 := by
  rcases Nat.lt_or_ge a 25 with q | q
  · exact ct_one0 a q z
  · rw [h q]
    exact fb_ct_zero.mpr (fun k _ => Bool.and_false _)
def h1 (L : Int32) (c : Nat) : Bool := decide (c % 5 ≠ 4) && bt L (1 + c)
def h2 (L : Int32) (c : Nat) : Bool := decide (1 ≤ c ∧ (c - 1) % 5 ≠ 4) && bt L (c - 1)
def v1 (L : Int32) (c : Nat) : Bool := bt L (5 + c)
def v2 (L : Int32) (c : Nat) : Bool := decide (5 ≤ c) && bt L (c - 5)
theorem bs_one : ∀ c, c < 25 → ∀ j, j < 25 → bt (bs (jshl (1 : Int32) (nI c))) j = (((decide (j = 1 + c) && decide (c % 5 ≠ 4)) || (decide (j = c - 1) && decide (1 ≤ c ∧ (c - 1) % 5 ≠ 4))) || ((decide (j = 5 + c) && true) || (decide (j = c - 5) && decide (5 ≤ c)))) := by decide +kernel
theorem at_bt (L : Int32) (a j : Nat) (z : Bool) : ((decide (j = a) && z) && bt L j) = (decide (j = a) && (z && bt L a)) := by
  by_cases h : j = a
  · subst h; simp
  · simp [h]
theorem bs_one_and (L : Int32) {c j : Nat} (hc : c < 25) (hj : j < 25) : bt (bs (jshl (1 : Int32) (nI c)) &&& L) j = (((decide (j = 1 + c) && h1 L c) || (decide (j = c - 1) && h2 L c)) || ((decide (j = 5 + c) && v1 L c) || (decide (j = c - 5) && v2 L c))) := by
  rw [b_and, bs_one c hc j hj, Bool.and_or_distrib_right, Bool.and_or_distrib_right, Bool.and_or_distrib_right, at_bt, at_bt, at_bt, at_bt, Bool.true_and]
  rfl
def nb (z : Bool) : Nat := if z then 1 else 0
theorem deg_eq {L : Int32} (hL : Cr L) {c : Nat} (hc : c < 25) : pc (bs (jshl (1 : Int32) (nI c)) &&& L) = (nb (h1 L c) + nb (h2 L c)) + (nb (v1 L c) + nb (v2 L c)) := by
  show fb_ct _ 25 = _
  rw [fb_ct_cong (fun j hj => bs_one_and L hc hj), fb_ct_or, fb_ct_or, fb_ct_or, ct_at, ct_at, ct_at, ct_at]
  · rfl
  · intro q; unfold v2; rw [decide_eq_false (by omega), Bool.false_and]
  · intro q; unfold v1; exact hL _ q
  · intro q; omega
  · intro q; unfold h1; rw [hL _ q, Bool.and_false]
  · intro k hk q
    unfold v1 v2 at q
    simp only [Bool.and_eq_true, decide_eq_true_eq] at q
    omega
  · intro k hk q
    unfold h1 h2 at q
    simp only [Bool.and_eq_true, decide_eq_true_eq] at q
    omega
  · intro k hk q
    unfold h1 h2 v1 v2 at q
    simp only [Bool.or_eq_true, Bool.and_eq_true, decide_eq_true_eq] at q
    omega
def tm (L : Int32) (c : Nat) : Nat := if bt L c then 4 - pc (bs (jshl (1 : Int32) (nI c)) &&& L) else 0
theorem nb_le (z : Bool) : nb z ≤ 1 := by cases z <;> decide
theorem deg_le {L : Int32} (hL : Cr L) {c : Nat} (hc : c < 25) : pc (bs (jshl (1 : Int32) (nI c)) &&& L) ≤ 4 := by
  rw [deg_eq hL hc]
  have := nb_le (h1 L c); have := nb_le (h2 L c); have := nb_le (v1 L c); have := nb_le (v2 L c)
  omega
theorem sm_ct (p : Nat → Bool) : ∀ n, fb_sm (fun k => nb (p k)) n = fb_ct p n
  | 0 => rfl
  | n + 1 => by rw [fb_sm_succ, fb_ct_succ, sm_ct p n]; rfl
theorem sm_4 (p : Nat → Bool) : ∀ n, fb_sm (fun k => if p k then 4 else 0) n = 4 * fb_ct p n
  | 0 => rfl
  | n + 1 => by rw [fb_sm_succ, fb_ct_succ, sm_4 p n]; split <;> omega
theorem tm_sum {L : Int32} (hL : Cr L) : fb_sm (tm L) 25 + ((fb_ct (fun c => bt L c && h1 L c) 25 + fb_ct (fun c => bt L c && h2 L c) 25) + (fb_ct (fun c => bt L c && v1 L c) 25 + fb_ct (fun c => bt L c && v2 L c) 25)) = 4 * pc L := by
  rw [← sm_ct, ← sm_ct, ← sm_ct, ← sm_ct, ← fb_sm_add, ← fb_sm_add, ← fb_sm_add, ← fb_sm_add, ← sm_4]
  refine fb_sm_cong (fun c hc => ?_)
  have d := deg_eq hL hc
  have d4 := deg_le hL hc
  unfold tm
  cases bt L c
  · rfl
  · rw [if_pos rfl, if_pos rfl, Bool.true_and, Bool.true_and, Bool.true_and, Bool.true_and]
    omega
theorem ct_h {L : Int32} : fb_ct (fun c => bt L c && h1 L c) 25 = fb_ct (fun c => bt L c && h2 L c) 25 := by
  rw [show (25 : Nat) = 24 + 1 from rfl, fb_ct_succ, show (24 + 1 : Nat) = 1 + 24 from rfl, fb_ct_split (fun c => bt L c && h2 L c) 1 24]
  have z1 : (bt L 24 && h1 L 24) = false := by unfold h1; rw [decide_eq_false (by decide), Bool.false_and, Bool.and_false]
  have z2 : fb_ct (fun c => bt L c && h2 L c) 1 = 0 := fb_ct_zero.mpr (fun k hk => by
    have : k = 0 := by omega
    subst this
    unfold h2; rw [decide_eq_false (by decide), Bool.false_and, Bool.and_false])
  rw [z1, z2, if_neg (by decide), Nat.add_zero, Nat.zero_add]
  refine fb_ct_cong (fun k hk => ?_)
  unfold h1 h2
  rw [show 1 + k - 1 = k by omega, show decide (1 ≤ 1 + k ∧ k % 5 ≠ 4) = decide (k % 5 ≠ 4) from decide_eq_decide.mpr ⟨fun h => h.2, fun h => ⟨by omega, h⟩⟩]
  cases bt L k <;> cases bt L (1 + k) <;> simp
theorem ct_v {L : Int32} (hL : Cr L) : fb_ct (fun c => bt L c && v1 L c) 25 = fb_ct (fun c => bt L c && v2 L c) 25 := by
  rw [show (25 : Nat) = 20 + 5 from rfl, fb_ct_split (fun c => bt L c && v1 L c) 20 5, show (20 + 5 : Nat) = 5 + 20 from rfl, fb_ct_split (fun c => bt L c && v2 L c) 5 20]
  have z1 : fb_ct (fun k => bt L (20 + k) && v1 L (20 + k)) 5 = 0 := fb_ct_zero.mpr (fun k hk => by
    unfold v1; rw [hL (5 + (20 + k)) (by omega), Bool.and_false])
  have z2 : fb_ct (fun c => bt L c && v2 L c) 5 = 0 := fb_ct_zero.mpr (fun k hk => by
    unfold v2; rw [decide_eq_false (by omega), Bool.false_and, Bool.and_false])
  rw [z1, z2, Nat.add_zero, Nat.zero_add]
  refine fb_ct_cong (fun k hk => ?_)
  unfold v1 v2
  rw [show 5 + k - 5 = k by omega, decide_eq_true (by omega), Bool.true_and, Bool.and_comm]
theorem x_sides {L : Int32} (hL : Cr L) : f_X2_openSides L = some (nI (fb_sm (tm L) 25)) := by
  have e1 : pc ((jshl (L &&& (-17318417 : Int32)) (1 : Int32)) &&& L) = fb_ct (fun c => bt L c && h2 L c) 25 := by
    refine fb_ct_cong (fun i hi => ?_)
    rw [b_and, show (1 : Int32) = nI 1 from rfl, bt_jshl (by decide) (by omega), b_and, k_lc (i - 1) (by omega)]
    unfold h2
    by_cases h : 1 ≤ i
    · simp [h, Bool.and_comm]
    · simp [h]
  have e2 : pc ((jshl L (5 : Int32)) &&& L) = fb_ct (fun c => bt L c && v2 L c) 25 := by
    refine fb_ct_cong (fun i hi => ?_)
    rw [b_and, show (5 : Int32) = nI 5 from rfl, bt_jshl (by decide) (by omega)]
    unfold v2
    rw [Bool.and_comm]
  have s := tm_sum hL
  have b1 := fb_ct_le (fun c => bt L c && h2 L c) 25
  have b2 := fb_ct_le (fun c => bt L c && v2 L c) 25
  rw [ct_h, ct_v hL] at s
  unfold f_X2_openSides
  rw [x_bits hL, bn_some, x_bits (cr_and2 _ hL), bn_some, x_bits (cr_and2 _ hL), bn_some, e1, e2, show (4 : Int32) = nI 4 from rfl, show (2 : Int32) = nI 2 from rfl, pk_mul, nI_add, pk_mul, pk_sub (by omega)]
  refine congrArg (fun z => some (nI z)) ?_
  omega
theorem m_sides_loop {L : Int32} (hL : Cr L) (rf : Nat → Int32) : ∀ (m i n : Nat), i + m = 25 → m < n → f_X6_edge_35 L rf n (nI (fb_sm (tm L) i)) (nI i) = some (nI (fb_sm (tm L) 25), rf) := by
  intro m
  induction m with
  | zero =>
    intro i n hi hn
    obtain ⟨n, rfl⟩ := fuel hn
    obtain rfl : i = 25 := by omega
    rw [f_X6_edge_35_s, if_pos (by decide)]
  | succ m ih =>
    intro i n hi hn
    obtain ⟨n, rfl⟩ := fuel hn
    have h25 : i < 25 := by omega
    have e : (if nI (if bt L i then 1 else 0) = 0 then some (0 : Int32) else (bn (f_X6_besideOf (jshl (1 : Int32) (nI i))) (fun (r34 : Int32) => bn (f_X6_bits (r34 &&& L)) (fun (r36 : Int32) => some ((4 : Int32) - r36))))) = some (nI (tm L i)) := by
      unfold tm
      cases bt L i
      · rfl
      · have d4 := deg_le hL h25
        rw [if_neg (show ¬ nI (if true = true then 1 else 0) = 0 by decide), if_pos rfl, m_beside (cr_one h25), bn_some, m_bits (cr_and2 _ hL), bn_some, show (4 : Int32) = nI 4 from rfl, pk_sub d4]
    rw [f_X6_edge_35_s, if_neg (show ¬ (25 : Int32) ≤ nI i from nI_nle' (a := 25) (by decide) (by omega) (by omega)), m_has hL (by omega), bn_some, e, bn_some, nI_add, nI_1]
    exact ih (i + 1) n (by omega) (by omega)
theorem eq_edge {tolds : Int32} {hasImage : Int32} {n_heirs : Int32} {n_left : Int32} {n_bitten : Int32} {n_kinds : (Nat → Int32)} {n_figures : (Nat → Int32)} {k_heirs : Int32} {k_left : Int32} {k_bitten : Int32} {k_kinds : (Nat → Int32)} {k_figures : (Nat → Int32)} {t_heirs : Int32} {t_left : Int32} {t_bitten : Int32} {t_kinds : (Nat → Int32)} {t_figures : (Nat → Int32)} {r_gone : Int32} {r_heaps : Int32} {r_fewestCells : Int32} {r_deed : Int32} {c_ways : (Nat → Int32)} {c_fewest : (Nat → Int32)} {c_nextWays : (Nat → Int32)} {c_nextFewest : (Nat → Int32)} {x_length : Int32} {x_letters : (Nat → Int32)} {told : (Nat → Int32)} {refusals : (Nat → Int32)} {ends : (Nat → Int32)} {m_left : Int32} {m_bites : Int32} {m_many : Int32} {m_imageLeft : Int32} {m_imageBites : Int32} {m_imageMany : Int32} {m_wasLeft : Int32} {m_wasBites : Int32} {m_wasMany : Int32} {m_hasImage : Int32} {m_letterMany : Int32} {m_rowMany : Int32} {m_place : Int32} {m_seed : Int32} {m_kind : (Nat → Int32)} {m_figure : (Nat → Int32)} {m_imageKind : (Nat → Int32)} {m_imageFigure : (Nat → Int32)} {m_wasKind : (Nat → Int32)} {m_wasFigure : (Nat → Int32)} {m_letters : (Nat → Int32)} {m_row : (Nat → Int32)} {m_refused : (Nat → Int32)} {m_numbers : (Nat → Int32)} {m_counted : (Nat → Int32)} {m_few : (Nat → Int32)} (hR : RR tolds hasImage n_heirs n_left n_bitten n_kinds n_figures k_heirs k_left k_bitten k_kinds k_figures x_length x_letters told refusals m_left m_bites m_many m_imageLeft m_imageBites m_imageMany m_hasImage m_letterMany m_rowMany m_kind m_figure m_imageKind m_imageFigure m_letters m_row m_refused) (a1 : Int32) : ∃ (o1 : Int32 × (Nat → Int32)) (o2 : Int32 × (Nat → Int32)), f_X5_edge n_left refusals a1 = some o1 ∧ f_X6_edge m_left m_refused a1 = some o2 ∧ o1.1 = o2.1 ∧ RR tolds hasImage n_heirs n_left n_bitten n_kinds n_figures k_heirs k_left k_bitten k_kinds k_figures x_length x_letters told o1.2 m_left m_bites m_many m_imageLeft m_imageBites m_imageMany m_hasImage m_letterMany m_rowMany m_kind m_figure m_imageKind m_imageFigure m_letters m_row o2.2 := by
  have hR0 := hR
  obtain ⟨⟨h, b, K, F, rfl, hL, rfl, rfl, hh, rfl, rfl, hb, hs, hs'⟩, hT, hW, hF, hI⟩ := hR
  unfold f_X5_edge f_X6_edge
  rcases two_cases a1 with ⟨e1, e2⟩ | ⟨hv, e1, e2⟩
  · rw [e1, e2, bn_some, bn_some, if_pos rfl, if_pos rfl, x_no2, m_no2, bn_some, bn_some]
    exact ⟨_, _, rfl, rfl, rfl, RR_bump hR0 (by decide)⟩
  · rw [e1, e2, bn_some, bn_some, if_neg (show ¬ (1 : Int32) = 0 by decide), if_neg (show ¬ (1 : Int32) = 0 by decide)]
    rcases hv with rfl | rfl
    · have ms : f_X6_edge_35 n_left m_refused 1000 (0 : Int32) (0 : Int32) = some (nI (fb_sm (tm n_left) 25), m_refused) := m_sides_loop hL m_refused 25 0 1000 rfl (by decide)
      rw [if_pos rfl, if_pos rfl, x_sides hL, bn_some, ms]
      exact ⟨_, _, rfl, rfl, rfl, hR0⟩
    · have mh : f_X6_edge_89 ((33554431 : Int32) &&& (n_left ^^^ (-1 : Int32))) m_refused 1000 (0 : Int32) ((33554431 : Int32) &&& (n_left ^^^ (-1 : Int32))) = some (nI (hol (cps (gap n_left))), m_refused) := m_holes n_left m_refused
      rw [if_neg (show ¬ (1 : Int32) = 0 by decide), if_neg (show ¬ (1 : Int32) = 0 by decide), x_holes, bn_some, mh]
      exact ⟨_, _, rfl, rfl, rfl, hR0⟩
