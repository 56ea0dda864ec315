/-! shares -/
def own (f : Nat) (L : Int32) : Nat := fb_ct (fun r => bt (dd L) (5 * r + f % 5)) 5
def eld (f : Nat) (L : Int32) : Nat := own f L + if bt (dd L) 2 then 5 else 0
def wid (f : Nat) (L : Int32) : Nat := own f L / 2 + 2 * pc (dd L &&& (14336 : Int32))
def shN (k f : Nat) (L : Int32) : Nat := if dd L = 0 then (if k = 3 then f else 0) else if k = 1 then eld f L else if k = 2 then wid f L else if k = 3 then eld f L / 3 else if k = 4 then (25 - pc L) - f else if k = 5 then wid f L + nh L - 1 else own f L
theorem own_le (f : Nat) (L : Int32) : own f L ≤ 5 := fb_ct_le _ _
theorem eld_le (f : Nat) (L : Int32) : eld f L ≤ 10 := by unfold eld; have := own_le f L; split <;> omega
theorem wid_le (f : Nat) (L : Int32) : wid f L ≤ 52 := by unfold wid; have := own_le f L; have := pc_le (dd L &&& (14336 : Int32)); omega
theorem cps_len {r : Int32} (hr : Cr r) : (cps r).length ≤ pc r := by
  refine cps_ind (P := fun r => (cps r).length ≤ pc r) (by rw [cps_zero]; exact Nat.zero_le _) (fun r hr hne ih => ?_) 25 r hr (pc_le r)
  rw [cps_ne hr hne, List.length_cons]
  have := rs1_lt hr hne
  omega
theorem nh_le {L : Int32} (hL : Cr L) : nh L ≤ 25 := Nat.le_trans (cps_len hL) (pc_le L)
theorem nh_pos {L : Int32} (hL : Cr L) (h : dd L ≠ 0) : 1 ≤ nh L := by
  by_cases e : L = 0
  · subst e; exact absurd rfl h
  · unfold nh; rw [cps_ne hL e, List.length_cons]; omega
theorem shN_le {k f : Nat} {L : Int32} (hL : Cr L) (hf : f < 10) : shN k f L ≤ 80 := by
  unfold shN
  have h1 := own_le f L; have h2 := eld_le f L; have h3 := wid_le f L; have h4 := nh_le hL
  repeat' split
  all_goals omega
theorem and_bit0 {x : Int32} {k : Nat} (hk : k < 25) : (x &&& jshl (1 : Int32) (nI k) = 0) ↔ bt x k = false := by
  constructor
  · intro h
    have := congrArg (fun z => bt z k) h
    simp only [b_and, b_0] at this
    rw [bt_one (by omega) (by omega), decide_eq_true rfl, Bool.and_true] at this
    exact this
  · intro h
    apply b_ext; intro i hi
    rw [b_and, bt_one (by omega) hi, b_0]
    by_cases e : i = k
    · subst e; rw [h, Bool.false_and]
    · rw [decide_eq_false e, Bool.and_false]
theorem stalk (x : Int32) : (x &&& (4 : Int32) = 0) ↔ bt x 2 = false := by
  have := and_bit0 (x := x) (k := 2) (by decide)
  exact this
theorem ct5 (p : Nat → Bool) {c : Nat} (hc : c < 5) : ∀ n, fb_ct (fun i => p i && decide (i % 5 = c)) (5 * n) = fb_ct (fun r => p (5 * r + c)) n
  | 0 => rfl
  | n + 1 => by
    rw [show 5 * (n + 1) = 5 * n + 5 by omega, fb_ct_split, ct5 p hc n, fb_ct_succ (fun r => p (5 * r + c)) n]
    congr 1
    have e : ∀ k, k < 5 → (p (5 * n + k) && decide ((5 * n + k) % 5 = c)) = (decide (k = c) && p (5 * n + c)) := fun k hk => by
      by_cases q : k = c
      · subst q; rw [decide_eq_true (by omega), decide_eq_true rfl, Bool.and_true, Bool.true_and]
      · rw [decide_eq_false (show ¬ (5 * n + k) % 5 = c by omega), decide_eq_false q, Bool.and_false, Bool.false_and]
    rw [fb_ct_cong e]
    generalize p (5 * n + c) = z
    have : ∀ c, c < 5 → ∀ z : Bool, fb_ct (fun k => decide (k = c) && z) 5 = if z then 1 else 0 := by decide
    exact this c hc z
theorem k_col : ∀ c, c < 5 → ∀ i, i < 25 → bt (jshl (1082401 : Int32) (nI c)) i = decide (i % 5 = c) := by decide +kernel
theorem jrem_nI {a d : Nat} (ha : a < 2 ^ 31) (h0 : 0 < d) (hd : d < 2 ^ 31) : jrem (nI a) (nI d) = nI (a % d) := pk_rem ha h0 hd
theorem div_nI {a d : Nat} (ha : a < 2 ^ 31) (h0 : 0 < d) (hd : d < 2 ^ 31) : nI a / nI d = nI (a / d) := pk_div ha h0 hd
theorem x_own {L : Int32} (hL : Cr L) {f : Nat} (hf : f < 10) : f_J6_bitCount_0f7a4 (dd L &&& (jshl (1082401 : Int32) (jrem (nI f) (5 : Int32)))) = some (nI (own f L)) := by
  rw [show (5 : Int32) = nI 5 from rfl, jrem_nI (by omega) (by decide) (by decide), x_bits (cr_and _ (cr_dd hL))]
  refine congrArg (fun z => some (nI z)) ?_
  unfold own
  rw [← ct5 (bt (dd L)) (c := f % 5) (by omega) 5]
  exact fb_ct_cong (fun i hi => by rw [b_and, k_col (f % 5) (by omega) i hi])
theorem x_five {L : Int32} : (if (dd L &&& (4 : Int32)) = 0 then (0 : Int32) else (5 : Int32)) = nI (if bt (dd L) 2 then 5 else 0) := by
  rw [ite_p (stalk (dd L))]
  cases bt (dd L) 2 <;> rfl
theorem x_eld {L : Int32} {f : Nat} : nI (own f L) + nI (if bt (dd L) 2 then 5 else 0) = nI (eld f L) := by rw [nI_add]; rfl
theorem x_wid {L : Int32} {f : Nat} : nI (own f L) / (2 : Int32) + (2 : Int32) * nI (pc (dd L &&& (14336 : Int32))) = nI (wid f L) := by
  rw [show (2 : Int32) = nI 2 from rfl, div_nI (by have := own_le f L; omega) (by decide) (by decide), pk_mul, nI_add]; rfl
theorem pig_eq {a b : Nat} (ha : a < 2 ^ 30) (hb : b < 2 ^ 30) : jmax (0 : Int32) (nI a - nI b) = nI (a - b) := by
  unfold jmax
  by_cases h : b < a
  · rw [pk_sub (by omega), if_pos (show (0 : Int32) < nI (a - b) from (nI_ltI (a := 0) (by decide) (by omega)).mpr (by omega))]
  · rw [show a - b = 0 by omega, if_neg]
    · rfl
    · intro q
      rw [Int32.lt_iff_toInt_lt, pk_sub_toInt ha hb] at q
      have : (0 : Int32).toInt = 0 := by decide
      omega
theorem gone_eq (L : Int32) : gone L = nI (25 - pc L) := by
  unfold gone
  rw [show (25 : Int32) = nI 25 from rfl, pk_sub (pc_le L)]
theorem x_shareBy {L : Int32} (hL : Cr L) {k f : Nat} (hk : k < 6) (hf : f < 10) : f_X3_shareBy (gone L) (nI (nh L)) (dd L) (nI k) (nI f) = some (nI (shN k f L)) := by
  unfold f_X3_shareBy f_X3_isInChancery
  by_cases h0 : dd L = 0
  · rw [if_pos h0, bn_some, if_neg (by decide)]
    unfold shN
    rw [if_pos h0, ite_p (show (nI k = (3 : Int32)) ↔ k = 3 from nI_eq (b := 3) (by omega) (by decide))]
    split <;> rfl
  · rw [if_neg h0, bn_some, if_pos rfl, x_own hL hf, bn_some, x_five, jn_eq, x_bits (cr_and _ (cr_dd hL)), bn_some, x_wid, x_eld]
    unfold shN
    rw [if_neg h0]
    have hc : k = 0 ∨ k = 1 ∨ k = 2 ∨ k = 3 ∨ k = 4 ∨ k = 5 := by omega
    rcases hc with rfl | rfl | rfl | rfl | rfl | rfl
    · rw [if_pos (show nI 0 = (0 : Int32) from rfl)]; rfl
    · rw [if_neg (show ¬ nI 1 = (0 : Int32) by decide), if_pos (show nI 1 = (1 : Int32) from rfl)]; rfl
    · rw [if_neg (show ¬ nI 2 = (0 : Int32) by decide), if_neg (show ¬ nI 2 = (1 : Int32) by decide), if_pos (show nI 2 = (2 : Int32) from rfl)]; rfl
    · rw [if_neg (show ¬ nI 3 = (0 : Int32) by decide), if_neg (show ¬ nI 3 = (1 : Int32) by decide), if_neg (show ¬ nI 3 = (2 : Int32) by decide), if_pos (show nI 3 = (3 : Int32) from rfl), show (3 : Int32) = nI 3 from rfl, div_nI (by have := eld_le f L; omega) (by decide) (by decide)]; rfl
    · rw [if_neg (show ¬ nI 4 = (0 : Int32) by decide), if_neg (show ¬ nI 4 = (1 : Int32) by decide), if_neg (show ¬ nI 4 = (2 : Int32) by decide), if_neg (show ¬ nI 4 = (3 : Int32) by decide), if_pos (show nI 4 = (4 : Int32) from rfl), gone_eq, pig_eq (by omega) (by omega)]; rfl
    · rw [if_neg (show ¬ nI 5 = (0 : Int32) by decide), if_neg (show ¬ nI 5 = (1 : Int32) by decide), if_neg (show ¬ nI 5 = (2 : Int32) by decide), if_neg (show ¬ nI 5 = (3 : Int32) by decide), if_neg (show ¬ nI 5 = (4 : Int32) by decide), if_pos (show nI 5 = (5 : Int32) from rfl), nI_add, show (1 : Int32) = nI 1 from rfl, pk_sub (by have := nh_pos hL h0; omega)]; rfl
/-! the reference's -/
theorem m_own_loop {D : Int32} (hD : Cr D) {f : Nat} (hf : f < 10) (k : Int32 → Option Int32) : ∀ (m i n : Nat), i + m = 5 → m < n → f_X6_shareBy_26 (nI f) D k n (nI (fb_ct (fun r => bt D (5 * r + f % 5)) i)) (nI i) = k (nI (fb_ct (fun r => bt D (5 * r + f % 5)) 5)) := by
  intro m
  induction m with
  | zero =>
    intro i n hi hn
    obtain ⟨n, rfl⟩ : ∃ k, n = k + 1 := ⟨n - 1, by omega⟩
    obtain rfl : i = 5 := by omega
    rw [f_X6_shareBy_26_s, if_pos (by decide)]
  | succ m ih =>
    intro i n hi hn
    obtain ⟨n, rfl⟩ : ∃ k, n = k + 1 := ⟨n - 1, by omega⟩
    rw [f_X6_shareBy_26_s, if_neg (by show ¬ nI 5 ≤ nI i; rw [nI_leI (by omega) (by omega)]; omega), show (5 : Int32) = nI 5 from rfl, jrem_nI (by omega) (by decide) (by decide), pk_mul, nI_add, shr_bit hD (by omega), nI_add, nI_1]
    exact ih (i + 1) n (by omega) (by omega)
theorem m_most {a b : Nat} (ha : a < 2 ^ 30) (hb : b < 2 ^ 30) : f_X6_most (0 : Int32) (nI a - nI b) = some (nI (a - b)) := by
  unfold f_X6_most
  by_cases h : b ≤ a
  · rw [pk_sub h, if_pos (show (0 : Int32) ≤ nI (a - b) from (nI_leI (a := 0) (by decide) (by omega)).mpr (by omega))]
  · rw [show a - b = 0 by omega, if_neg]
    · rfl
    · intro q
      rw [Int32.le_iff_toInt_le, pk_sub_toInt ha hb] at q
      have : (0 : Int32).toInt = 0 := by decide
      omega
theorem m_shareBy {L : Int32} (hL : Cr L) {k f : Nat} (hk : k < 6) (hf : f < 10) : f_X6_shareBy L (nI k) (nI f) = some (nI (shN k f L)) := by
  unfold f_X6_shareBy
  rw [m_deed hL, bn_some]
  by_cases h0 : dd L = 0
  · rw [if_pos h0]
    unfold shN
    rw [if_pos h0, ite_p (show (nI k = (3 : Int32)) ↔ k = 3 from nI_eq (b := 3) (by omega) (by decide))]
    split <;> rfl
  · rw [if_neg h0]
    have hlo := m_own_loop (cr_dd hL) hf (fun (e5 : Int32) => jn (if (dd L &&& (4 : Int32)) = 0 then (((0 : Int32) : Int32)) else (((5 : Int32) : Int32))) (fun (j6 : Int32) => bn (f_X6_bits (dd L &&& (14336 : Int32))) (fun (r8 : Int32) => if nI k = (1 : Int32) then (some (e5 + j6)) else (if nI k = (2 : Int32) then (some ((e5 / (2 : Int32)) + ((2 : Int32) * r8))) else (if nI k = (3 : Int32) then (some ((e5 + j6) / (3 : Int32))) else (if nI k = (4 : Int32) then (bn (f_X6_bits L) (fun (r13 : Int32) => bn (f_X6_most (0 : Int32) (((25 : Int32) - r13) - nI f)) (fun (r15 : Int32) => some r15))) else (if nI k = (5 : Int32) then (bn (f_X6_heaps L) (fun (r18 : Int32) => some ((((e5 / (2 : Int32)) + ((2 : Int32) * r8)) + r18) - (1 : Int32)))) else (some e5)))))))) 5 0 1000 rfl (by decide)
    refine Eq.trans hlo ?_
    rw [jn_eq, m_bits (cr_and _ (cr_dd hL)), bn_some]
    have ej : (if (dd L &&& (4 : Int32)) = 0 then (0 : Int32) else (5 : Int32)) = nI (if bt (dd L) 2 then 5 else 0) := by
      rw [ite_p (stalk (dd L))]
      cases bt (dd L) 2 <;> rfl
    rw [ej]
    have eo : fb_ct (fun r => bt (dd L) (5 * r + f % 5)) 5 = own f L := rfl
    rw [eo]
    unfold shN
    rw [if_neg h0]
    have hc : k = 0 ∨ k = 1 ∨ k = 2 ∨ k = 3 ∨ k = 4 ∨ k = 5 := by omega
    have ew : nI (own f L) / (2 : Int32) + (2 : Int32) * nI (pc (dd L &&& (14336 : Int32))) = nI (wid f L) := by
      rw [show (2 : Int32) = nI 2 from rfl, div_nI (by have := own_le f L; omega) (by decide) (by decide), pk_mul, nI_add]; rfl
    rcases hc with rfl | rfl | rfl | rfl | rfl | rfl
    · rw [if_neg (show ¬ nI 0 = (1 : Int32) by decide), if_neg (show ¬ nI 0 = (2 : Int32) by decide), if_neg (show ¬ nI 0 = (3 : Int32) by decide), if_neg (show ¬ nI 0 = (4 : Int32) by decide), if_neg (show ¬ nI 0 = (5 : Int32) by decide)]; rfl
    · rw [if_pos (show nI 1 = (1 : Int32) from rfl), nI_add]; rfl
    · rw [if_neg (show ¬ nI 2 = (1 : Int32) by decide), if_pos (show nI 2 = (2 : Int32) from rfl), ew]; rfl
    · rw [if_neg (show ¬ nI 3 = (1 : Int32) by decide), if_neg (show ¬ nI 3 = (2 : Int32) by decide), if_pos (show nI 3 = (3 : Int32) from rfl), nI_add, show (3 : Int32) = nI 3 from rfl, div_nI (by have := own_le f L; split <;> omega) (by decide) (by decide)]; rfl
    · rw [if_neg (show ¬ nI 4 = (1 : Int32) by decide), if_neg (show ¬ nI 4 = (2 : Int32) by decide), if_neg (show ¬ nI 4 = (3 : Int32) by decide), if_pos (show nI 4 = (4 : Int32) from rfl), m_bits hL, bn_some, show (25 : Int32) = nI 25 from rfl, pk_sub (pc_le L), m_most (by omega) (by omega), bn_some]; rfl
    · rw [if_neg (show ¬ nI 5 = (1 : Int32) by decide), if_neg (show ¬ nI 5 = (2 : Int32) by decide), if_neg (show ¬ nI 5 = (3 : Int32) by decide), if_neg (show ¬ nI 5 = (4 : Int32) by decide), if_pos (show nI 5 = (5 : Int32) from rfl), m_heaps hL, bn_some, ew, nI_add, show (1 : Int32) = nI 1 from rfl, pk_sub (by have := nh_pos hL h0; unfold nh at this; omega)]; rfl
