theorem bn_some {α β : Type} (a : α) (k : α → Option β) : bn (some a) k = k a := Eq.trans (Eq.refl (bn (some a) k)) (Eq.refl (k a))
theorem jn_eq {α β : Type} (a : α) (k : α → β) : jn a k = k a := Eq.trans (Eq.refl (jn a k)) (Eq.refl (k a))
theorem ck_true {α : Type} (k : Option α) : ck true k = k := Eq.trans (Eq.refl (ck true k)) (Eq.refl k)
theorem ite_p {α : Type} {p q : Prop} [Decidable p] [Decidable q] (h : p ↔ q) (a b : α) : (if p then a else b) = if q then a else b := by
  by_cases hq : q
  · rw [if_pos hq, if_pos (h.mpr hq)]
  · rw [if_neg hq, if_neg (fun z => hq (h.mp z))]
theorem bt_not {y : Int32} {i : Nat} (hi : i < 32) : bt (y ^^^ (-1 : Int32)) i = !bt y i := by rw [b_xor, b_m1 i hi, Bool.xor_true]
theorem bt_andn {x y : Int32} {i : Nat} (hi : i < 32) : bt (x &&& (y ^^^ (-1 : Int32))) i = (bt x i && !bt y i) := by rw [b_and, bt_not hi]
/-- a core: nothing beyond the 25 cells -/
def Cr (x : Int32) : Prop := ∀ i, 25 ≤ i → bt x i = false
theorem cr_ext {x y : Int32} (hx : Cr x) (hy : Cr y) (h : ∀ i, i < 25 → bt x i = bt y i) : x = y := b_ext (fun i _ => by
  rcases Nat.lt_or_ge i 25 with q | q
  · exact h i q
  · rw [hx i q, hy i q])
theorem cr_and {x : Int32} (y : Int32) (hx : Cr x) : Cr (x &&& y) := fun i hi => by rw [b_and, hx i hi, Bool.false_and]
theorem cr_and2 {y : Int32} (x : Int32) (hy : Cr y) : Cr (x &&& y) := fun i hi => by rw [b_and, hy i hi, Bool.and_false]
theorem cr_or {x y : Int32} (hx : Cr x) (hy : Cr y) : Cr (x ||| y) := fun i hi => by rw [b_or, hx i hi, hy i hi, Bool.false_or]
theorem cr_0 : Cr 0 := fun i _ => b_0 i
theorem lit_nI (n : Nat) : (OfNat.ofNat n : Int32) = nI n := rfl
theorem bt_nI {n i : Nat} (hi : i < 32) : bt (nI n) i = n.testBit i := by
  unfold bt nI
  show (BitVec.ofNat 32 n).getLsbD i = _
  rw [BitVec.getLsbD_ofNat]
  simp [hi]
theorem cr_nI {n : Nat} (h : n < 33554432) : Cr (nI n) := by
  intro i hi
  rcases Nat.lt_or_ge i 32 with q | q
  · rw [bt_nI q]
    exact Nat.testBit_lt_two_pow (Nat.lt_of_lt_of_le h (Nat.le_trans (show 33554432 ≤ 2 ^ 25 by decide) (Nat.pow_le_pow_right (by decide) hi)))
  · exact b_big q
theorem cr_all : Cr (33554431 : Int32) := cr_nI (n := 33554431) (by decide)
theorem bt_all {i : Nat} (h : i < 25) : bt (33554431 : Int32) i = true := (by decide +kernel : ∀ i, i < 25 → bt (33554431 : Int32) i = true) i h
/-- one cell -/
theorem bt_1 : ∀ i, i < 32 → bt (1 : Int32) i = decide (i = 0) := by decide +kernel
theorem bt_one {k i : Nat} (hk : k < 32) (hi : i < 32) : bt (jshl (1 : Int32) (nI k)) i = decide (i = k) := by
  unfold jshl
  rw [b_shl k hk _ hi, bt_1 _ (by omega)]
  rcases Nat.lt_trichotomy i k with h | h | h
  · rw [decide_eq_false (show ¬ k ≤ i by omega), decide_eq_false (show ¬ i = k by omega), Bool.false_and]
  · subst h; simp
  · rw [decide_eq_false (show ¬ i - k = 0 by omega), decide_eq_false (show ¬ i = k by omega), Bool.and_false]
theorem cr_one {k : Nat} (hk : k < 25) : Cr (jshl (1 : Int32) (nI k)) := by
  intro i hi
  rcases Nat.lt_or_ge i 32 with q | q
  · rw [bt_one (by omega) q, decide_eq_false (by omega)]
  · exact b_big q
theorem bt_jshl {x : Int32} {k i : Nat} (hk : k < 32) (hi : i < 32) : bt (jshl x (nI k)) i = (decide (k ≤ i) && bt x (i - k)) := b_shl k hk x hi
theorem bt_jshr {x : Int32} (hx : Cr x) {k i : Nat} (hk : k < 32) (hi : i < 32) : bt (jshr x (nI k)) i = bt x (k + i) := by
  unfold jshr
  rw [b_sshr k hk x hi]
  split
  · rfl
  · rw [hx 31 (by omega), hx (k + i) (by omega)]
theorem nI_bit (x : Int32) : x &&& (1 : Int32) = nI (if bt x 0 then 1 else 0) := by
  apply b_ext
  intro i hi
  rw [b_and, bt_1 i hi]
  by_cases h0 : i = 0
  · subst h0
    cases h : bt x 0 <;> decide
  · rw [decide_eq_false h0, Bool.and_false]
    cases h : bt x 0
    · exact (b_0 i).symm
    · show false = bt (1 : Int32) i
      rw [bt_1 i hi, decide_eq_false h0]
theorem shr_bit {x : Int32} (hx : Cr x) {k : Nat} (hk : k < 32) : jshr x (nI k) &&& (1 : Int32) = nI (if bt x k then 1 else 0) := by
  rw [nI_bit, bt_jshr hx hk (by decide)]; rfl
theorem nI_ite_eq1 (b : Bool) : (nI (if b then 1 else 0) = (1 : Int32)) ↔ b = true := by cases b <;> decide
theorem nI_ite_eq0 (b : Bool) : (nI (if b then 1 else 0) = (0 : Int32)) ↔ b = false := by cases b <;> decide
theorem cr_zero_iff {x : Int32} (hx : Cr x) : x = 0 ↔ ∀ i, i < 25 → bt x i = false := ⟨fun h i _ => by rw [h, b_0], fun h => cr_ext hx cr_0 (fun i hi => by rw [h i hi, b_0])⟩
theorem cr_ne_zero {x : Int32} (hx : Cr x) (h : x ≠ 0) : ∃ i, i < 25 ∧ bt x i = true := by
  apply Classical.byContradiction
  intro q
  refine h ((cr_zero_iff hx).mpr (fun i hi => ?_))
  cases hb : bt x i
  · rfl
  · exact absurd ⟨i, hi, hb⟩ q
/-- the number of cells -/
abbrev pc (x : Int32) : Nat := fb_ct (bt x) 25
theorem pc_le (x : Int32) : pc x ≤ 25 := fb_ct_le _ _
theorem pc_zero {x : Int32} (hx : Cr x) : pc x = 0 ↔ x = 0 := by rw [cr_zero_iff hx]; exact fb_ct_zero
/-! the reference's count of cells -/
theorem m_bits_loop {x : Int32} (hx : Cr x) : ∀ (m i n : Nat), i + m = 25 → m < n → f_X6_bits_4 x n (nI (fb_ct (bt x) i)) (nI i) = some (nI (pc x)) := by
  intro m
  induction m with
  | zero =>
    intro i n hi hn
    obtain ⟨n, rfl⟩ : ∃ k, n = k + 1 := ⟨n - 1, by omega⟩
    have e : i = 25 := by omega
    subst e
    rw [f_X6_bits_4_s, if_pos (by decide)]
  | succ m ih =>
    intro i n hi hn
    obtain ⟨n, rfl⟩ : ∃ k, n = k + 1 := ⟨n - 1, by omega⟩
    rw [f_X6_bits_4_s, if_neg (by show ¬ nI 25 ≤ nI i; rw [nI_leI (by omega) (by omega)]; omega), shr_bit hx (by omega), nI_add, nI_1]
    exact ih (i + 1) n (by omega) (by omega)
theorem m_bits {x : Int32} (hx : Cr x) : f_X6_bits x = some (nI (pc x)) := m_bits_loop hx 25 0 1000 rfl (by decide)
