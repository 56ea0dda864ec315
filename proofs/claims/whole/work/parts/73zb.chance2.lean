/-! chance: the class's counts -/
theorem x_single_loop {K F : Nat → Nat} {nk nf : Nat → Int32} (hs : HS K F nk nf) {j v : Nat} (hj : j < 5) (hv : v ≤ 40) {L : Int32} (hL : Cr L) : ∀ (m i n a : Nat) (g1 g2 g3 g4 : Int32), i + m = 25 → m < n → ∃ u1 u2 u3 u4, f_X5_singlesTo_7 (nI j) (nI v) L nk nf n (nI a) (nI i) g1 g2 g3 g4 = some (nI (a + ctR (w1 K F j v L) m i), u1, u2, u3, u4) := by
  intro m
  induction m with
  | zero =>
    intro i n a g1 g2 g3 g4 hi hn
    obtain ⟨n, rfl⟩ := fuel hn
    obtain rfl : i = 25 := by omega
    exact ⟨g1, g2, g3, g4, by rw [f_X5_singlesTo_7_s, if_pos (by decide)]; rfl⟩
  | succ m ih =>
    intro i n a g1 g2 g3 g4 hi hn
    obtain ⟨n, rfl⟩ := fuel hn
    have h25 : i < 25 := by omega
    have ex : f_X5_shareOf nk nf (nI j) (L &&& (jshl (1 : Int32) (nI i) ^^^ (-1 : Int32))) = some (nI (sh K F j (wo i L)), gone (wo i L), nI (nh (wo i L)), nI (fw (wo i L)), dd (wo i L)) := x_shareOf hs hj (cr_wo (c := i) hL)
    rw [f_X5_singlesTo_7_s, if_neg (show ¬ (25 : Int32) ≤ nI i from nI_nle' (a := 25) (by decide) (by omega) (by omega)), ite_p (and_bit0 h25), nI_1]
    show ∃ u1 u2 u3 u4, _ = some (nI (a + (nb (w1 K F j v L i) + ctR (w1 K F j v L) m (i + 1))), u1, u2, u3, u4)
    rw [show w1 K F j v L i = (bt L i && gd K F j v (wo i L)) from rfl]
    cases h : bt L i with
    | false =>
      rw [if_pos rfl, bn_some, nI_1, Bool.false_and, show a + (nb false + ctR (w1 K F j v L) m (i + 1)) = a + ctR (w1 K F j v L) m (i + 1) by unfold nb; simp]
      exact ih (i + 1) n a _ _ _ _ (by omega) (by omega)
    | true =>
      rw [if_neg (by decide), ex, bn_some, gd_ite hs hj hv (cr_wo (c := i) hL), Bool.true_and]
      cases gd K F j v (wo i L) with
      | false =>
        rw [if_neg (by decide), bn_some, nI_1, show a + (nb false + ctR (w1 K F j v L) m (i + 1)) = a + ctR (w1 K F j v L) m (i + 1) by unfold nb; simp]
        exact ih (i + 1) n a _ _ _ _ (by omega) (by omega)
      | true =>
        rw [if_pos rfl, bn_some, nI_1, show a + (nb true + ctR (w1 K F j v L) m (i + 1)) = (a + 1) + ctR (w1 K F j v L) m (i + 1) by unfold nb; simp; omega]
        exact ih (i + 1) n (a + 1) _ _ _ _ (by omega) (by omega)
theorem x_single {K F : Nat → Nat} {nk nf : Nat → Int32} (hs : HS K F nk nf) {j v : Nat} (hj : j < 5) (hv : v ≤ 40) {L : Int32} (hL : Cr L) {i : Nat} (hi : i ≤ 25) (g1 g2 g3 g4 : Int32) : ∃ u1 u2 u3 u4, f_X5_singlesTo nk nf g1 g2 g3 g4 (nI j) (nI v) L (nI i) = some (nI (ctR (w1 K F j v L) (25 - i) i), u1, u2, u3, u4) := by
  have := x_single_loop hs hj hv hL (25 - i) i 1000 0 g1 g2 g3 g4 (by omega) (by omega)
  rw [Nat.zero_add] at this
  exact this
theorem x_pairs_loop {K F : Nat → Nat} {nk nf : Nat → Int32} (hs : HS K F nk nf) {j v : Nat} (hj : j < 5) (hv : v ≤ 40) {L : Int32} (hL : Cr L) : ∀ (m i n a : Nat) (g1 g2 g3 g4 : Int32), i + m = 25 → m < n → ∃ u1 u2 u3 u4, f_X5_pairsTo_5 (nI j) (nI v) L nk nf n (nI a) (nI i) g1 g2 g3 g4 = some (nI (a + smR (pr2 K F j v L) m i), u1, u2, u3, u4) := by
  intro m
  induction m with
  | zero =>
    intro i n a g1 g2 g3 g4 hi hn
    obtain ⟨n, rfl⟩ := fuel hn
    obtain rfl : i = 25 := by omega
    exact ⟨g1, g2, g3, g4, by rw [f_X5_pairsTo_5_s, if_pos (by decide)]; rfl⟩
  | succ m ih =>
    intro i n a g1 g2 g3 g4 hi hn
    obtain ⟨n, rfl⟩ := fuel hn
    have h25 : i < 25 := by omega
    rw [f_X5_pairsTo_5_s, if_neg (show ¬ (25 : Int32) ≤ nI i from nI_nle' (a := 25) (by decide) (by omega) (by omega)), ite_p (and_bit0 h25), nI_1]
    show ∃ u1 u2 u3 u4, _ = some (nI (a + (pr2 K F j v L i + smR (pr2 K F j v L) m (i + 1))), u1, u2, u3, u4)
    rw [← Nat.add_assoc]
    cases h : bt L i with
    | false =>
      rw [if_pos rfl, bn_some, show pr2 K F j v L i = 0 by unfold pr2; rw [h]; rfl]
      exact ih (i + 1) n a _ _ _ _ (by omega) (by omega)
    | true =>
      obtain ⟨y1, y2, y3, y4, ey⟩ := x_single hs hj hv (cr_wo (c := i) hL) (i := i + 1) (by omega) g1 g2 g3 g4
      have ey' : f_X5_singlesTo nk nf g1 g2 g3 g4 (nI j) (nI v) (L &&& (jshl (1 : Int32) (nI i) ^^^ (-1 : Int32))) (nI (i + 1)) = some (nI (pr2 K F j v L i), y1, y2, y3, y4) := by
        unfold pr2; rw [h, if_pos rfl]; exact ey
      rw [if_neg (by decide), ey', bn_some, bn_some, nI_add]
      exact ih (i + 1) n (a + pr2 K F j v L i) _ _ _ _ (by omega) (by omega)
theorem x_pairs {K F : Nat → Nat} {nk nf : Nat → Int32} (hs : HS K F nk nf) {j v : Nat} (hj : j < 5) (hv : v ≤ 40) {L : Int32} (hL : Cr L) (g1 g2 g3 g4 : Int32) : ∃ u1 u2 u3 u4, f_X5_pairsTo L nk nf g1 g2 g3 g4 (nI j) (nI v) = some (nI (fb_sm (pr2 K F j v L) 25), u1, u2, u3, u4) := by
  have := x_pairs_loop hs hj hv hL 25 0 1000 0 g1 g2 g3 g4 rfl (by decide)
  have e := smR_all (pr2 K F j v L) 25 0
  rw [show fb_sm (pr2 K F j v L) 0 = 0 from rfl] at e
  rw [e] at this
  exact this
/-! chance: the reference's ways -/
theorem m_hit {K F : Nat → Nat} {nk nf : Nat → Int32} (hs : HS K F nk nf) {j v : Nat} (hj : j < 5) (hv : v ≤ 40) {L : Int32} (hL : Cr L) : bn (f_X6_shareOf nk nf L (nI j)) (fun (r1 : Int32) => if r1 < nI v then (some (0 : Int64)) else (some (1 : Int64))) = some (nW (nb (gd K F j v L))) := by
  rw [m_shareOf hs hj hL, bn_some, gd_ite hs hj hv hL]
  cases gd K F j v L <;> rfl
theorem m_w0 {K F : Nat → Nat} {nk nf : Nat → Int32} (hs : HS K F nk nf) {j v : Nat} (hj : j < 5) (hv : v ≤ 40) {L : Int32} (hL : Cr L) : f_X6_waysFor_0 nk nf L (nI j) (nI v) (0 : Int32) = some (nW (nb (gd K F j v L))) := by
  unfold f_X6_waysFor_0
  rw [if_pos rfl]
  exact m_hit hs hj hv hL
theorem m_w1_loop {K F : Nat → Nat} {nk nf : Nat → Int32} (hs : HS K F nk nf) {j v : Nat} (hj : j < 5) (hv : v ≤ 40) {L : Int32} (hL : Cr L) : ∀ (m i n : Nat), i + m = 25 → m < n → f_X6_waysFor_1_31 L (nI j) (nI v) (1 : Int32) nk nf n (nW (fb_ct (w1 K F j v L) i)) (nI i) = some (nW (W1 K F j v L)) := by
  intro m
  induction m with
  | zero =>
    intro i n hi hn
    obtain ⟨n, rfl⟩ := fuel hn
    obtain rfl : i = 25 := by omega
    rw [f_X6_waysFor_1_31_s, if_pos (by decide)]
    rfl
  | succ m ih =>
    intro i n hi hn
    obtain ⟨n, rfl⟩ := fuel hn
    have h25 : i < 25 := by omega
    have I := ih (i + 1) n (by omega) (by omega)
    have e0 : f_X6_waysFor_0 nk nf (L &&& (jshl (1 : Int32) (nI i) ^^^ (-1 : Int32))) (nI j) (nI v) (0 : Int32) = some (nW (nb (gd K F j v (wo i L)))) := m_w0 hs hj hv (cr_wo (c := i) hL)
    have st : (if nI (if bt L i then 1 else 0) = 0 then (some (0 : Int64)) else (bn (f_X6_waysFor_0 nk nf (L &&& ((jshl (1 : Int32) (nI i)) ^^^ (-1 : Int32))) (nI j) (nI v) ((1 : Int32) - (1 : Int32))) (fun (r7 : Int64) => some r7))) = some (nW (nb (w1 K F j v L i))) := by
      unfold w1
      cases bt L i
      · rfl
      · rw [if_neg (show ¬ nI (if true = true then 1 else 0) = 0 by decide), show (1 : Int32) - 1 = 0 by decide, e0, bn_some, Bool.true_and]
    rw [f_X6_waysFor_1_31_s, if_neg (show ¬ (25 : Int32) ≤ nI i from nI_nle' (a := 25) (by decide) (by omega) (by omega)), m_has hL (by omega), bn_some, st, bn_some, nW_add, nI_1]
    exact I
theorem m_w1 {K F : Nat → Nat} {nk nf : Nat → Int32} (hs : HS K F nk nf) {j v : Nat} (hj : j < 5) (hv : v ≤ 40) {L : Int32} (hL : Cr L) : f_X6_waysFor_1 nk nf L (nI j) (nI v) (1 : Int32) = some (nW (X1 K F j v L)) := by
  unfold f_X6_waysFor_1 X1
  rw [if_neg (show ¬ (1 : Int32) = 0 by decide)]
  by_cases q : L = 0
  · rw [if_pos q, if_pos q]
    exact m_hit hs hj hv hL
  · rw [if_neg q, if_neg q]
    exact m_w1_loop hs hj hv hL 25 0 1000 rfl (by decide)
theorem m_w1b {K F : Nat → Nat} {nk nf : Nat → Int32} (hs : HS K F nk nf) {j v : Nat} (hj : j < 5) (hv : v ≤ 40) {L : Int32} (hL : Cr L) : f_X6_waysFor_1 nk nf L (nI j) (nI v) (0 : Int32) = some (nW (nb (gd K F j v L))) := by
  unfold f_X6_waysFor_1
  rw [if_pos rfl]
  exact m_hit hs hj hv hL
theorem m_w2_loop {K F : Nat → Nat} {nk nf : Nat → Int32} (hs : HS K F nk nf) {j v : Nat} (hj : j < 5) (hv : v ≤ 40) {L : Int32} (hL : Cr L) : ∀ (m i n : Nat), i + m = 25 → m < n → f_X6_waysFor_2_31 L (nI j) (nI v) (2 : Int32) nk nf n (nW (fb_sm (w2 K F j v L) i)) (nI i) = some (nW (fb_sm (w2 K F j v L) 25)) := by
  intro m
  induction m with
  | zero =>
    intro i n hi hn
    obtain ⟨n, rfl⟩ := fuel hn
    obtain rfl : i = 25 := by omega
    rw [f_X6_waysFor_2_31_s, if_pos (by decide)]
  | succ m ih =>
    intro i n hi hn
    obtain ⟨n, rfl⟩ := fuel hn
    have h25 : i < 25 := by omega
    have I := ih (i + 1) n (by omega) (by omega)
    have e0 : f_X6_waysFor_1 nk nf (L &&& (jshl (1 : Int32) (nI i) ^^^ (-1 : Int32))) (nI j) (nI v) (1 : Int32) = some (nW (X1 K F j v (wo i L))) := m_w1 hs hj hv (cr_wo (c := i) hL)
    have st : (if nI (if bt L i then 1 else 0) = 0 then (some (0 : Int64)) else (bn (f_X6_waysFor_1 nk nf (L &&& ((jshl (1 : Int32) (nI i)) ^^^ (-1 : Int32))) (nI j) (nI v) ((2 : Int32) - (1 : Int32))) (fun (r7 : Int64) => some r7))) = some (nW (w2 K F j v L i)) := by
      unfold w2
      cases bt L i
      · rfl
      · rw [if_neg (show ¬ nI (if true = true then 1 else 0) = 0 by decide), show (2 : Int32) - 1 = 1 by decide, e0, bn_some, if_pos rfl]
    rw [f_X6_waysFor_2_31_s, if_neg (show ¬ (25 : Int32) ≤ nI i from nI_nle' (a := 25) (by decide) (by omega) (by omega)), m_has hL (by omega), bn_some, st, bn_some, nW_add, nI_1]
    exact I
theorem m_w2_loop1 {K F : Nat → Nat} {nk nf : Nat → Int32} (hs : HS K F nk nf) {j v : Nat} (hj : j < 5) (hv : v ≤ 40) {L : Int32} (hL : Cr L) : ∀ (m i n : Nat), i + m = 25 → m < n → f_X6_waysFor_2_31 L (nI j) (nI v) (1 : Int32) nk nf n (nW (fb_ct (w1 K F j v L) i)) (nI i) = some (nW (W1 K F j v L)) := by
  intro m
  induction m with
  | zero =>
    intro i n hi hn
    obtain ⟨n, rfl⟩ := fuel hn
    obtain rfl : i = 25 := by omega
    rw [f_X6_waysFor_2_31_s, if_pos (by decide)]
    rfl
  | succ m ih =>
    intro i n hi hn
    obtain ⟨n, rfl⟩ := fuel hn
    have h25 : i < 25 := by omega
    have I := ih (i + 1) n (by omega) (by omega)
    have e0 : f_X6_waysFor_1 nk nf (L &&& (jshl (1 : Int32) (nI i) ^^^ (-1 : Int32))) (nI j) (nI v) (0 : Int32) = some (nW (nb (gd K F j v (wo i L)))) := m_w1b hs hj hv (cr_wo (c := i) hL)
    have st : (if nI (if bt L i then 1 else 0) = 0 then (some (0 : Int64)) else (bn (f_X6_waysFor_1 nk nf (L &&& ((jshl (1 : Int32) (nI i)) ^^^ (-1 : Int32))) (nI j) (nI v) ((1 : Int32) - (1 : Int32))) (fun (r7 : Int64) => some r7))) = some (nW (nb (w1 K F j v L i))) := by
      unfold w1
      cases bt L i
      · rfl
      · rw [if_neg (show ¬ nI (if true = true then 1 else 0) = 0 by decide), show (1 : Int32) - 1 = 0 by decide, e0, bn_some, Bool.true_and]
    rw [f_X6_waysFor_2_31_s, if_neg (show ¬ (25 : Int32) ≤ nI i from nI_nle' (a := 25) (by decide) (by omega) (by omega)), m_has hL (by omega), bn_some, st, bn_some, nW_add, nI_1]
    exact I
def wys (K F : Nat → Nat) (j v s : Nat) (L : Int32) : Nat := if s = 0 then nb (gd K F j v L) else if L = 0 then nb (gd K F j v L) else if s = 1 then W1 K F j v L else fb_sm (w2 K F j v L) 25
theorem m_ways {K F : Nat → Nat} {nk nf : Nat → Int32} (hs : HS K F nk nf) {j v : Nat} (hj : j < 5) (hv : v ≤ 40) {L : Int32} (hL : Cr L) {s : Nat} (h2 : s ≤ 2) : f_X6_waysFor_2 nk nf L (nI j) (nI v) (nI s) = some (nW (wys K F j v s L)) := by
  unfold f_X6_waysFor_2 wys
  have h3 : s = 0 ∨ s = 1 ∨ s = 2 := by omega
  rcases h3 with rfl | rfl | rfl
  · rw [if_pos (show nI 0 = (0 : Int32) from rfl), if_pos rfl]
    exact m_hit hs hj hv hL
  · rw [if_neg (show ¬ nI 1 = (0 : Int32) by decide), if_neg (show ¬ (1 : Nat) = 0 by decide)]
    by_cases q : L = 0
    · rw [if_pos q, if_pos q]
      exact m_hit hs hj hv hL
    · rw [if_neg q, if_neg q, if_pos rfl]
      exact m_w2_loop1 hs hj hv hL 25 0 1000 rfl (by decide)
  · rw [if_neg (show ¬ nI 2 = (0 : Int32) by decide), if_neg (show ¬ (2 : Nat) = 0 by decide)]
    by_cases q : L = 0
    · rw [if_pos q, if_pos q]
      exact m_hit hs hj hv hL
    · rw [if_neg q, if_neg q, if_neg (by decide)]
      exact m_w2_loop hs hj hv hL 25 0 1000 rfl (by decide)
def bel (s p : Nat) : Nat := if s = 0 then 1 else if p = 0 then 1 else if s = 1 then p else if p = 1 then 1 else p * (p - 1)
theorem m_bel {L : Int32} (hL : Cr L) (k : Int64 → Option (Int64 × (Nat → Int32))) {s : Nat} (h2 : s ≤ 2) : f_X6_chance_70 (nI s) L k 1000 (1 : Int64) (0 : Int32) = k (nW (bel s (pc L))) := by
  have p25 := pc_le L
  have d0 : (nI (pc L) - (0 : Int32)).toInt64 = nW (pc L) := by
    rw [show nI (pc L) - (0 : Int32) = nI (pc L) from pk_sub (b := 0) (Nat.zero_le _), wide (by omega)]
  have z1 : nI (pc L) ≤ (0 : Int32) ↔ pc L = 0 := by
    rw [show (nI (pc L) ≤ (0 : Int32)) ↔ pc L ≤ 0 from nI_leI (b := 0) (by omega) (by decide)]
    omega
  have z2 : nI (pc L) ≤ (1 : Int32) ↔ pc L ≤ 1 := nI_leI (b := 1) (by omega) (by decide)
  have one : (1 : Int64) * nW (pc L) = nW (pc L) := by
    rw [show (1 : Int64) = nW 1 from rfl, nW_mul, Nat.one_mul]
  rw [show (1000 : Nat) = 999 + 1 from rfl, f_X6_chance_70_s]
  unfold bel
  have h3 : s = 0 ∨ s = 1 ∨ s = 2 := by omega
  rcases h3 with rfl | rfl | rfl
  · rw [if_pos (show nI 0 ≤ (0 : Int32) by decide), if_pos rfl]
    rfl
  · rw [if_neg (show ¬ nI 1 ≤ (0 : Int32) by decide), if_neg (show ¬ (1 : Nat) = 0 by decide), m_bits hL, bn_some, ite_p z1]
    by_cases q : pc L = 0
    · rw [if_pos q, if_pos q]
      rfl
    · rw [if_neg q, if_neg q, bn_some, d0, one, show (0 : Int32) + 1 = 1 by decide, show (999 : Nat) = 998 + 1 from rfl, f_X6_chance_70_s, if_pos (show nI 1 ≤ (1 : Int32) by decide), if_pos rfl]
  · rw [if_neg (show ¬ nI 2 ≤ (0 : Int32) by decide), if_neg (show ¬ (2 : Nat) = 0 by decide), m_bits hL, bn_some, ite_p z1]
    by_cases q : pc L = 0
    · rw [if_pos q, if_pos q]
      rfl
    · rw [if_neg q, if_neg q, bn_some, d0, one, show (0 : Int32) + 1 = 1 by decide, show (999 : Nat) = 998 + 1 from rfl, f_X6_chance_70_s, if_neg (show ¬ nI 2 ≤ (1 : Int32) by decide), m_bits hL, bn_some, ite_p z2, if_neg (show ¬ (2 : Nat) = 1 by decide)]
      by_cases q1 : pc L = 1
      · rw [if_pos (by omega), if_pos q1, q1]
      · rw [if_neg (by omega), if_neg q1, bn_some, show (1 : Int32) = nI 1 from rfl, pk_sub (by omega), wide (by omega), nW_mul, nI_add, show (998 : Nat) = 997 + 1 from rfl, f_X6_chance_70_s, if_pos (show nI 2 ≤ nI (1 + 1) by decide)]
/-! chance -/
theorem eq_chance {tolds : Int32} {hasImage : Int32} {n_heirs : Int32} {n_left : Int32} {n_bitten : Int32} {n_kinds : (Nat → Int32)} {n_figures : (Nat → Int32)} {k_heirs : Int32} {k_left : Int32} {k_bitten : Int32} {k_kinds : (Nat → Int32)} {k_figures : (Nat → Int32)} {t_heirs : Int32} {t_left : Int32} {t_bitten : Int32} {t_kinds : (Nat → Int32)} {t_figures : (Nat → Int32)} {r_gone : Int32} {r_heaps : Int32} {r_fewestCells : Int32} {r_deed : Int32} {c_ways : (Nat → Int32)} {c_fewest : (Nat → Int32)} {c_nextWays : (Nat → Int32)} {c_nextFewest : (Nat → Int32)} {x_length : Int32} {x_letters : (Nat → Int32)} {told : (Nat → Int32)} {refusals : (Nat → Int32)} {ends : (Nat → Int32)} {m_left : Int32} {m_bites : Int32} {m_many : Int32} {m_imageLeft : Int32} {m_imageBites : Int32} {m_imageMany : Int32} {m_wasLeft : Int32} {m_wasBites : Int32} {m_wasMany : Int32} {m_hasImage : Int32} {m_letterMany : Int32} {m_rowMany : Int32} {m_place : Int32} {m_seed : Int32} {m_kind : (Nat → Int32)} {m_figure : (Nat → Int32)} {m_imageKind : (Nat → Int32)} {m_imageFigure : (Nat → Int32)} {m_wasKind : (Nat → Int32)} {m_wasFigure : (Nat → Int32)} {m_letters : (Nat → Int32)} {m_row : (Nat → Int32)} {m_refused : (Nat → Int32)} {m_numbers : (Nat → Int32)} {m_counted : (Nat → Int32)} {m_few : (Nat → Int32)} (hR : RR tolds hasImage n_heirs n_left n_bitten n_kinds n_figures k_heirs k_left k_bitten k_kinds k_figures x_length x_letters told refusals m_left m_bites m_many m_imageLeft m_imageBites m_imageMany m_hasImage m_letterMany m_rowMany m_kind m_figure m_imageKind m_imageFigure m_letters m_row m_refused) (a1 : Int32) (a2 : Int32) (a3 : Int32) (a4 : Int32) : ∃ (o1 : Int64 × Int32 × Int32 × Int32 × Int32 × (Nat → Int32)) (o2 : Int64 × (Nat → Int32)), f_X5_chance n_heirs n_left n_kinds n_figures r_gone r_heaps r_fewestCells r_deed refusals a1 a2 a3 a4 = some o1 ∧ f_X6_chance m_left m_many m_kind m_figure m_refused a1 a2 a3 a4 = some o2 ∧ o1.1 = o2.1 ∧ RR tolds hasImage n_heirs n_left n_bitten n_kinds n_figures k_heirs k_left k_bitten k_kinds k_figures x_length x_letters told o1.2.2.2.2.2 m_left m_bites m_many m_imageLeft m_imageBites m_imageMany m_hasImage m_letterMany m_rowMany m_kind m_figure m_imageKind m_imageFigure m_letters m_row o2.2 := by
  have hR0 := hR
  obtain ⟨⟨h, b, K, F, rfl, hL, rfl, rfl, hh, rfl, rfl, hb, hs, hs'⟩, hT, hW, hF, hI⟩ := hR
  unfold f_X5_chance f_X6_chance f_X6_noWide
  rcases heir_cases hh a1 with ⟨e1, e2⟩ | ⟨j, hj, rfl, e1, e2⟩
  · rw [e1, e2, bn_some, bn_some, if_pos rfl, if_pos rfl, x_no1, m_no1, bn_some, bn_some, bn_some]
    exact ⟨_, _, rfl, rfl, rfl, RR_bump hR0 (by decide)⟩
  rw [e1, e2, bn_some, bn_some, if_neg (show ¬ (1 : Int32) = 0 by decide), if_neg (show ¬ (1 : Int32) = 0 by decide)]
  by_cases c2 : a2 < 0
  · rw [if_pos c2, if_pos c2, x_no4, m_no4, bn_some, bn_some, bn_some]
    exact ⟨_, _, rfl, rfl, rfl, RR_bump hR0 (by decide)⟩
  rw [if_neg c2, if_neg c2]
  by_cases c3 : a3 < 0
  · rw [if_neg (not_ge c3), if_neg (not_ge c3), x_no4, m_no4, bn_some, bn_some, bn_some]
    exact ⟨_, _, rfl, rfl, rfl, RR_bump hR0 (by decide)⟩
  rw [if_pos (Int32.not_lt.mp c3), if_pos (Int32.not_lt.mp c3)]
  by_cases c4 : (2 : Int32) < a2
  · rw [if_pos c4, if_pos c4, x_no6, m_no6, bn_some, bn_some, bn_some]
    exact ⟨_, _, rfl, rfl, rfl, RR_bump hR0 (by decide)⟩
  rw [if_neg c4, if_neg c4]
  by_cases c5 : (40 : Int32) < a3
  · rw [if_neg (Int32.not_le.mpr c5), if_neg (Int32.not_le.mpr c5), x_no6, m_no6, bn_some, bn_some, bn_some]
    exact ⟨_, _, rfl, rfl, rfl, RR_bump hR0 (by decide)⟩
  rw [if_pos (Int32.not_lt.mp c5), if_pos (Int32.not_lt.mp c5)]
  rcases two_cases a4 with ⟨e1, e2⟩ | ⟨hz, e1, e2⟩
  · rw [e1, e2, bn_some, bn_some, if_pos rfl, if_pos rfl, x_no2, m_no2, bn_some, bn_some, bn_some]
    exact ⟨_, _, rfl, rfl, rfl, RR_bump hR0 (by decide)⟩
  obtain ⟨z, rfl⟩ := two_z hz
  have gs : ∃ s : Nat, s ≤ 2 ∧ a2 = nI s := by
    rcases rng a2 (n := 2) (by decide) with q | q | q
    · exact absurd q c2
    · exact absurd q c4
    · exact q
  have gv : ∃ v : Nat, v ≤ 40 ∧ a3 = nI v := by
    rcases rng a3 (n := 40) (by decide) with q | q | q
    · exact absurd q c3
    · exact absurd q c5
    · exact q
  obtain ⟨s, hs2, rfl⟩ := gs
  obtain ⟨v, hv, rfl⟩ := gv
  have hj5 : j < 5 := by omega
  have p25 := pc_le n_left
  have g1 := gd_bit K F j v n_left
  have W25 := W1_le K F j v n_left
  have w25 := w2_le K F j v n_left
  rw [e1, e2, bn_some, bn_some, if_neg (show ¬ (1 : Int32) = 0 by decide), if_neg (show ¬ (1 : Int32) = 0 by decide), m_bel hL _ hs2, m_ways hs' hj5 hv hL hs2, bn_some, x_bits hL, bn_some, jmin_nI (by omega) (by omega)]
  have done0 : min s (pc n_left) = 0 → wys K F j v s n_left = nb (gd K F j v n_left) ∧ bel s (pc n_left) = 1 := fun q => by
    unfold wys bel
    by_cases w : s = 0
    · rw [if_pos w, if_pos w]; exact ⟨rfl, rfl⟩
    · have q0 : pc n_left = 0 := by omega
      rw [if_neg w, if_neg w, if_pos ((pc_zero hL).mp q0), if_pos q0]; exact ⟨rfl, rfl⟩
  have nz : pc n_left ≠ 0 → n_left ≠ 0 := fun q e => q ((pc_zero hL).mpr e)
  have done1 : min s (pc n_left) = 1 → wys K F j v s n_left = W1 K F j v n_left ∧ bel s (pc n_left) = pc n_left := fun q => by
    unfold wys bel
    rw [if_neg (show ¬ s = 0 by omega), if_neg (show ¬ s = 0 by omega), if_neg (nz (by omega)), if_neg (show ¬ pc n_left = 0 by omega)]
    by_cases w : s = 1
    · rw [if_pos w, if_pos w]; exact ⟨rfl, rfl⟩
    · have q1 : pc n_left = 1 := by omega
      rw [if_neg w, if_neg w, if_pos q1, pairs_one hL q1, q1]; exact ⟨rfl, rfl⟩
  have done2 : ¬ min s (pc n_left) = 0 → ¬ min s (pc n_left) = 1 → wys K F j v s n_left = fb_sm (w2 K F j v n_left) 25 ∧ bel s (pc n_left) = pc n_left * (pc n_left - 1) ∧ 2 ≤ pc n_left := fun q0 q1 => by
    unfold wys bel
    rw [if_neg (show ¬ s = 0 by omega), if_neg (show ¬ s = 0 by omega), if_neg (nz (by omega)), if_neg (show ¬ pc n_left = 0 by omega), if_neg (show ¬ s = 1 by omega), if_neg (show ¬ s = 1 by omega), if_neg (show ¬ pc n_left = 1 by omega)]
    exact ⟨rfl, rfl, by omega⟩
  by_cases q0 : min s (pc n_left) = 0
  · obtain ⟨d1, d2⟩ := done0 q0
    rw [if_pos ((nI0_iff (by omega)).mpr q0), x_shareOf hs hj5 hL, bn_some, gd_ite hs hj5 hv hL, d1, d2, m_part (by omega) (by decide) (fun _ => by decide), bn_some]
    cases gd K F j v n_left
    · rw [if_neg (by decide), show f_X5_partOf (0 : Int32) (1 : Int32) (nI (if z then 0 else 1)) = some (prt 0 1 z) from x_part (a := 0) (b := 1) (by decide) (by decide) (by decide) z, bn_some]
      exact ⟨_, _, rfl, rfl, rfl, hR0⟩
    · rw [if_pos rfl, show f_X5_partOf (1 : Int32) (1 : Int32) (nI (if z then 0 else 1)) = some (prt 1 1 z) from x_part (a := 1) (b := 1) (by decide) (by decide) (by decide) z, bn_some]
      exact ⟨_, _, rfl, rfl, rfl, hR0⟩
  · rw [if_neg (fun e => q0 ((nI0_iff (by omega)).mp e)), ite_p (show (nI (min s (pc n_left)) = (1 : Int32)) ↔ min s (pc n_left) = 1 from nI_eq (b := 1) (by omega) (by decide))]
    by_cases q1 : min s (pc n_left) = 1
    · obtain ⟨d1, d2⟩ := done1 q1
      obtain ⟨y1, y2, y3, y4, ey⟩ := x_single hs hj5 hv hL (i := 0) (by decide) r_gone r_heaps r_fewestCells r_deed
      have ee : ctR (w1 K F j v n_left) (25 - 0) 0 = W1 K F j v n_left := by
        have := ctR_all (w1 K F j v n_left) 25 0
        rw [show fb_ct (w1 K F j v n_left) 0 = 0 from rfl, Nat.zero_add, Nat.zero_add] at this
        exact this
      rw [ee] at ey
      rw [if_pos q1, show (0 : Int32) = nI 0 from rfl, ey, bn_some, d1, d2, x_part (by omega) (by omega) (by omega), m_part (by omega) (by omega) (fun _ => by omega), bn_some, bn_some]
      exact ⟨_, _, rfl, rfl, rfl, hR0⟩
    · obtain ⟨d1, d2, d3⟩ := done2 q0 q1
      obtain ⟨y1, y2, y3, y4, ey⟩ := x_pairs hs hj5 hv hL r_gone r_heaps r_fewestCells r_deed
      have pt := pairs_two (K := K) (F := F) (j := j) (v := v) d3
      have pp : pc n_left * (pc n_left - 1) ≤ 25 * 24 := Nat.mul_le_mul p25 (by omega)
      have ev : pc n_left * (pc n_left - 1) = 2 * (pc n_left * (pc n_left - 1) / 2) := by
        have : ∀ p, p ≤ 25 → p * (p - 1) = 2 * (p * (p - 1) / 2) := by decide
        exact this _ p25
      have p1 : 2 * 1 ≤ pc n_left * (pc n_left - 1) := Nat.mul_le_mul d3 (by omega)
      rw [if_neg q1, ey, bn_some, show (1 : Int32) = nI 1 from rfl, pk_sub (by omega), pk_mul, show (2 : Int32) = nI 2 from rfl, div_nI (by omega) (by decide) (by decide), x_part (by omega) (by omega) (by omega), d1, d2, m_part (by omega) (by omega) (fun _ => by omega), bn_some, bn_some]
      refine ⟨_, _, rfl, rfl, ?_, hR0⟩
      show prt _ _ z = prt _ _ z
      rw [pt, ev, prt_two, ← ev]
