/-! whatIs -/
def li (i : Nat) (L : Int32) : Int32 := if i = 0 then L else wo (i - 1) L
theorem cr_li {i : Nat} {L : Int32} (hL : Cr L) : Cr (li i L) := by unfold li; split; exact hL; exact cr_wo hL
def fitF (L : Int32) (td : Nat → Int32) (k f : Nat) : Nat → Nat → Bool
  | 0, _ => true
  | m + 1, i => if nI (shN k f (li i L)) = td i then fitF L td k f m (i + 1) else false
theorem nI0_iff {i : Nat} (h : i < 2 ^ 31) : nI i = (0 : Int32) ↔ i = 0 := (nI_eq (b := 0) h (by decide))
theorem x_fits_loop {L : Int32} (hL : Cr L) {k f t : Nat} (hk : k < 6) (hf : f < 10) (ht : t ≤ 16) (td : Nat → Int32) : ∀ (m i n : Nat) (g1 g2 g3 g4 : Int32), i + m = t → m < n → ∃ u1 u2 u3 u4, f_X5_fitsTold_2 (nI k) (nI f) (nI t) L td n (nI i) g1 g2 g3 g4 = some (nI (if fitF L td k f m i then 1 else 0), u1, u2, u3, u4) := by
  intro m
  induction m with
  | zero =>
    intro i n g1 g2 g3 g4 hi hn
    obtain ⟨n, rfl⟩ := fuel hn
    obtain rfl : i = t := by omega
    rw [f_X5_fitsTold_2_s, if_pos (Int32.le_refl _)]
    exact ⟨_, _, _, _, rfl⟩
  | succ m ih =>
    intro i n g1 g2 g3 g4 hi hn
    obtain ⟨n, rfl⟩ := fuel hn
    have e : L &&& ((if nI i = 0 then (0 : Int32) else jshl (1 : Int32) (nI i - (1 : Int32))) ^^^ (-1 : Int32)) = li i L := by
      unfold li
      rw [ite_p (nI0_iff (by omega))]
      by_cases q : i = 0
      · rw [if_pos q, if_pos q, and_not_zero]
      · rw [if_neg q, if_neg q, show (1 : Int32) = nI 1 from rfl, pk_sub (by omega)]
        rfl
    rw [f_X5_fitsTold_2_s, if_neg (nI_nle' (by omega) (by omega) (by omega)), jn_eq, e, x_reads (cr_li hL), bn_some, x_shareBy (cr_li hL) hk hf, bn_some, inb_nI (by omega) (by decide), ck_true, nI_clamp (by omega), nI_1]
    unfold fitF
    by_cases q : nI (shN k f (li i L)) = td i
    · rw [if_pos q, if_pos q]
      exact ih (i + 1) n _ _ _ _ (by omega) (by omega)
    · rw [if_neg q, if_neg q]
      exact ⟨_, _, _, _, rfl⟩
theorem m_fits_loop {K F : Nat → Nat} {nk nf : Nat → Int32} (hs : HS K F nk nf) {a : Nat} (ha : a < 5) {L : Int32} (hL : Cr L) {t c : Nat} (z : Bool) (hc : c < if z then 6 else 10) (ht : t ≤ 16) (td rw' : Nat → Int32) (hr : ∀ i, i < 16 → td i = rw' i) (k : Int32 → Option (Int32 × (Nat → Int32))) : ∀ (m i n : Nat) (b : Bool), i + m = t → m < n → f_X6_whatIs_57 (nI a) (nI (if z then 0 else 1)) (nI c) L (nI t) nk nf rw' k n (nI (if b then 1 else 0)) (nI i) = k (nI (if b && fitF L td (if z then c else K a) (if z then F a else c) m i then 1 else 0)) := by
  intro m
  induction m with
  | zero =>
    intro i n b hi hn
    obtain ⟨n, rfl⟩ := fuel hn
    obtain rfl : i = t := by omega
    rw [f_X6_whatIs_57_s, if_pos (Int32.le_refl _)]
    show _ = k (nI (if b && true then 1 else 0))
    rw [Bool.and_true]
  | succ m ih =>
    intro i n b hi hn
    obtain ⟨n, rfl⟩ := fuel hn
    have e : (if nI i = 0 then L else L &&& (jshl (1 : Int32) (nI i - (1 : Int32)) ^^^ (-1 : Int32))) = li i L := by
      unfold li
      rw [ite_p (nI0_iff (by omega))]
      by_cases q : i = 0
      · rw [if_pos q, if_pos q]
      · rw [if_neg q, if_neg q, show (1 : Int32) = nI 1 from rfl, pk_sub (by omega)]
        rfl
    have k1 := hs a ha
    have e1 : (if nI (if z then 0 else 1) = 0 then some (nI c) else ck (inb (nI a) 5) (some (nk (nI a).toNatClampNeg))) = some (nI (if z then c else K a)) := by
      rw [inb_nI (by omega) (by decide), ck_true, nI_clamp (by omega), k1.1]
      cases z <;> rfl
    have e2 : (if nI (if z then 0 else 1) = (1 : Int32) then some (nI c) else ck (inb (nI a) 5) (some (nf (nI a).toNatClampNeg))) = some (nI (if z then F a else c)) := by
      rw [inb_nI (by omega) (by decide), ck_true, nI_clamp (by omega), k1.2.1]
      cases z <;> rfl
    have hk : (if z then c else K a) < 6 := by cases z; exact k1.2.2.1; exact hc
    have hf : (if z then F a else c) < 10 := by cases z; exact hc; exact k1.2.2.2
    rw [f_X6_whatIs_57_s, if_neg (nI_nle' (by omega) (by omega) (by omega)), jn_eq, e, e1, bn_some, e2, bn_some, m_shareBy (cr_li hL) hk hf, bn_some, inb_nI (by omega) (by decide), ck_true, jn_eq, nI_clamp (by omega), ← hr i (by omega), nI_1]
    unfold fitF
    by_cases q : nI (shN (if z then c else K a) (if z then F a else c) (li i L)) = td i
    · rw [if_pos q, if_pos q, show nI (if b = true then 1 else 0) &&& (1 : Int32) = nI (if b = true then 1 else 0) by cases b <;> decide]
      exact ih (i + 1) n b (by omega) (by omega)
    · rw [if_neg q, if_neg q, show nI (if b = true then 1 else 0) &&& (0 : Int32) = nI (if false = true then 1 else 0) by cases b <;> decide, ih (i + 1) n false (by omega) (by omega), Bool.false_and, Bool.and_false]
theorem what_loop {K F : Nat → Nat} {nk nf nk' nf' : Nat → Int32} (hs : HS K F nk nf) (hs' : HS K F nk' nf') {a : Nat} (ha : a < 5) {L : Int32} (hL : Cr L) {t : Nat} (z : Bool) (ht : t ≤ 16) (td rw' : Nat → Int32) (hr : ∀ i, i < 16 → td i = rw' i) (r r' : Nat → Int32) : ∀ (m c n : Nat) (v g1 g2 g3 g4 : Int32), c + m = (if z then 6 else 10) → m < n → ∃ w u1 u2 u3 u4, f_X5_whatIs_46 (nI a) (nI (if z then 0 else 1)) (nI (if z then 6 else 10)) (nI t) L nk nf td r n v (nI c) g1 g2 g3 g4 = some (w, u1, u2, u3, u4, r) ∧ f_X6_whatIs_35 (nI a) (nI (if z then 0 else 1)) L (nI t) nk' nf' rw' r' n v (nI c) = some (w, r') := by
  have hj : (if nI (if z then 0 else 1) = 0 then (6 : Int32) else 10) = nI (if z then 6 else 10) := by cases z <;> rfl
  have hN : (if z then 6 else 10) ≤ 10 := by cases z <;> decide
  intro m
  induction m with
  | zero =>
    intro c n v g1 g2 g3 g4 hi hn
    obtain ⟨n, rfl⟩ := fuel hn
    have hc : c = if z then 6 else 10 := by omega
    rw [f_X5_whatIs_46_s, f_X6_whatIs_35_s, hj, jn_eq, ← hc, if_pos (Int32.le_refl _), if_pos (Int32.le_refl _)]
    exact ⟨_, _, _, _, _, rfl, rfl⟩
  | succ m ih =>
    intro c n v g1 g2 g3 g4 hi hn
    obtain ⟨n, rfl⟩ := fuel hn
    have k1 := hs a ha
    have hc : c < if z then 6 else 10 := by omega
    have lt : ¬ nI (if z then 6 else 10) ≤ nI c := nI_nle' (by omega) (by omega) hc
    have hk : (if z then c else K a) < 6 := by cases z; exact k1.2.2.1; exact hc
    have hf : (if z then F a else c) < 10 := by cases z; exact hc; exact k1.2.2.2
    have e1 : (if nI (if z then 0 else 1) = 0 then some (nI c) else ck (inb (nI a) 5) (some (nk (nI a).toNatClampNeg))) = some (nI (if z then c else K a)) := by
      rw [inb_nI (by omega) (by decide), ck_true, nI_clamp (by omega), k1.1]
      cases z <;> rfl
    have e2 : (if nI (if z then 0 else 1) = 0 then ck (inb (nI a) 5) (some (nf (nI a).toNatClampNeg)) else some (nI c)) = some (nI (if z then F a else c)) := by
      rw [inb_nI (by omega) (by decide), ck_true, nI_clamp (by omega), k1.2.1]
      cases z <;> rfl
    obtain ⟨u1, u2, u3, u4, x⟩ := x_fits_loop hL hk hf ht td t 0 1000 g1 g2 g3 g4 (by omega) (by omega)
    have x' : f_X5_fitsTold (nI t) L g1 g2 g3 g4 td (nI (if z then c else K a)) (nI (if z then F a else c)) = some (nI (if fitF L td (if z then c else K a) (if z then F a else c) t 0 then 1 else 0), u1, u2, u3, u4) := by
      unfold f_X5_fitsTold
      exact x
    have y := fun k => m_fits_loop hs' ha hL z hc ht td rw' hr k t 0 1000 true (by omega) (by omega)
    have y' : ∀ k, f_X6_whatIs_57 (nI a) (nI (if z then 0 else 1)) (nI c) L (nI t) nk' nf' rw' k 1000 (1 : Int32) (0 : Int32) = k (nI (if fitF L td (if z then c else K a) (if z then F a else c) t 0 then 1 else 0)) := y
    rw [f_X5_whatIs_46_s, f_X6_whatIs_35_s, hj, jn_eq, if_neg lt, if_neg lt, e1, bn_some, e2, bn_some, x', bn_some, jn_eq, y', jn_eq, nI_1]
    cases fitF L td (if z then c else K a) (if z then F a else c) t 0 with
    | false =>
      rw [if_pos (show nI (if false = true then 1 else 0) = 0 from rfl), if_pos (show nI (if false = true then 1 else 0) = 0 from rfl), Int32.or_zero]
      exact ih (c + 1) n _ _ _ _ _ (by omega) (by omega)
    | true =>
      rw [if_neg (show ¬ nI (if true = true then 1 else 0) = 0 by decide), if_neg (show ¬ nI (if true = true then 1 else 0) = 0 by decide)]
      exact ih (c + 1) n _ _ _ _ _ (by omega) (by omega)
theorem eq_whatIs {tolds : Int32} {hasImage : Int32} {n_heirs : Int32} {n_left : Int32} {n_bitten : Int32} {n_kinds : (Nat → Int32)} {n_figures : (Nat → Int32)} {k_heirs : Int32} {k_left : Int32} {k_bitten : Int32} {k_kinds : (Nat → Int32)} {k_figures : (Nat → Int32)} {t_heirs : Int32} {t_left : Int32} {t_bitten : Int32} {t_kinds : (Nat → Int32)} {t_figures : (Nat → Int32)} {r_gone : Int32} {r_heaps : Int32} {r_fewestCells : Int32} {r_deed : Int32} {c_ways : (Nat → Int32)} {c_fewest : (Nat → Int32)} {c_nextWays : (Nat → Int32)} {c_nextFewest : (Nat → Int32)} {x_length : Int32} {x_letters : (Nat → Int32)} {told : (Nat → Int32)} {refusals : (Nat → Int32)} {ends : (Nat → Int32)} {m_left : Int32} {m_bites : Int32} {m_many : Int32} {m_imageLeft : Int32} {m_imageBites : Int32} {m_imageMany : Int32} {m_wasLeft : Int32} {m_wasBites : Int32} {m_wasMany : Int32} {m_hasImage : Int32} {m_letterMany : Int32} {m_rowMany : Int32} {m_place : Int32} {m_seed : Int32} {m_kind : (Nat → Int32)} {m_figure : (Nat → Int32)} {m_imageKind : (Nat → Int32)} {m_imageFigure : (Nat → Int32)} {m_wasKind : (Nat → Int32)} {m_wasFigure : (Nat → Int32)} {m_letters : (Nat → Int32)} {m_row : (Nat → Int32)} {m_refused : (Nat → Int32)} {m_numbers : (Nat → Int32)} {m_counted : (Nat → Int32)} {m_few : (Nat → Int32)} (hR : RR tolds hasImage n_heirs n_left n_bitten n_kinds n_figures k_heirs k_left k_bitten k_kinds k_figures x_length x_letters told refusals m_left m_bites m_many m_imageLeft m_imageBites m_imageMany m_hasImage m_letterMany m_rowMany m_kind m_figure m_imageKind m_imageFigure m_letters m_row m_refused) (a1 : Int32) (a2 : Int32) : ∃ (o1 : Int32 × Int32 × Int32 × Int32 × Int32 × (Nat → Int32)) (o2 : Int32 × (Nat → Int32)), f_X5_whatIs tolds n_heirs n_left n_kinds n_figures r_gone r_heaps r_fewestCells r_deed told refusals a1 a2 = some o1 ∧ f_X6_whatIs m_left m_many m_rowMany m_kind m_figure m_row m_refused a1 a2 = some o2 ∧ o1.1 = o2.1 ∧ RR tolds hasImage n_heirs n_left n_bitten n_kinds n_figures k_heirs k_left k_bitten k_kinds k_figures x_length x_letters told o1.2.2.2.2.2 m_left m_bites m_many m_imageLeft m_imageBites m_imageMany m_hasImage m_letterMany m_rowMany m_kind m_figure m_imageKind m_imageFigure m_letters m_row o2.2 := by
  have hR0 := hR
  obtain ⟨⟨h, b, K, F, rfl, hL, rfl, rfl, hh, rfl, rfl, hb, hs, hs'⟩, ⟨t, ht, rfl, rfl, hr⟩, hW, hF, hI⟩ := hR
  unfold f_X5_whatIs f_X6_whatIs
  rcases heir_cases hh a1 with ⟨e1, e2⟩ | ⟨j, hj, rfl, e1, e2⟩
  · rw [e1, e2, bn_some, bn_some, if_pos rfl, if_pos rfl, x_no1, m_no1, bn_some, bn_some]
    exact ⟨_, _, rfl, rfl, rfl, RR_bump hR0 (by decide)⟩
  · rw [e1, e2, bn_some, bn_some, if_neg (show ¬ (1 : Int32) = 0 by decide), if_neg (show ¬ (1 : Int32) = 0 by decide)]
    rcases two_cases a2 with ⟨e1, e2⟩ | ⟨hv, e1, e2⟩
    · rw [e1, e2, bn_some, bn_some, if_pos rfl, if_pos rfl, x_no2, m_no2, bn_some, bn_some]
      exact ⟨_, _, rfl, rfl, rfl, RR_bump hR0 (by decide)⟩
    · rw [e1, e2, bn_some, bn_some, if_neg (show ¬ (1 : Int32) = 0 by decide), if_neg (show ¬ (1 : Int32) = 0 by decide)]
      obtain ⟨z, rfl⟩ := two_z hv
      have hr' : ∀ i, i < 16 → told i = m_row i := fun i hi => by
        obtain ⟨c, _, q1, q2⟩ := hr i hi
        rw [q1, q2]
      have hj' : (if nI (if z then 0 else 1) = 0 then (6 : Int32) else 10) = nI (if z then 6 else 10) := by cases z <;> rfl
      obtain ⟨w, u1, u2, u3, u4, x, y⟩ := what_loop hs hs' (show j < 5 by omega) hL z ht told m_row hr' refusals m_refused (if z then 6 else 10) 0 1000 0 r_gone r_heaps r_fewestCells r_deed (by omega) (by cases z <;> decide)
      rw [← show (0 : Int32) = nI 0 from rfl] at x y
      rw [jn_eq, hj', x, y]
      exact ⟨_, _, rfl, rfl, rfl, hR0⟩
