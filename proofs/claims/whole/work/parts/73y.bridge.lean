/-! bridge -/
theorem ite_le_nI {a b : Nat} (ha : a < 2 ^ 31) (hb : b < 2 ^ 31) {α : Type} (x y : α) : (if nI a ≤ nI b then x else y) = if a ≤ b then x else y := ite_p (nI_leI ha hb) x y
def br (L : Int32) (c : Nat) : Bool := bt L c && decide (nh L < nh (wo c L))
theorem least_pc : ∀ c, c < 25 → f_J6_bitCount_0f7a4 (jshl (1 : Int32) (nI c) - (1 : Int32)) = some (nI c) := by decide +kernel
theorem x_leastCell {B : Int32} {c : Nat} (h : isL B c) : f_X2_leastCell B = some (nI c) := by
  unfold f_X2_leastCell
  rw [low_eq h, least_pc c h.1, bn_some]
theorem x_br_loop {L : Int32} (hL : Cr L) : ∀ (m i n : Nat) (B : Int32), i + m = 25 → m < n → Cr B → (∀ k, k < 25 → bt B k = (decide (k < i) && br L k)) → ∃ B', f_X5_bridgesOf_9 L (nI (nh L)) n B (nI i) = some B' ∧ Cr B' ∧ ∀ k, k < 25 → bt B' k = br L k := by
  intro m
  induction m with
  | zero =>
    intro i n B hi hn hB hb
    obtain ⟨n, rfl⟩ := fuel hn
    obtain rfl : i = 25 := by omega
    rw [f_X5_bridgesOf_9_s, if_pos (by decide)]
    exact ⟨B, rfl, hB, fun k hk => by rw [hb k hk]; simp [hk]⟩
  | succ m ih =>
    intro i n B hi hn hB hb
    obtain ⟨n, rfl⟩ := fuel hn
    have hi25 : i < 25 := by omega
    have n1 := nh_le hL
    have n2 := nh_le (cr_wo (c := i) hL)
    rw [f_X5_bridgesOf_9_s, if_neg (show ¬ (25 : Int32) ≤ nI i from nI_nle' (a := 25) (by decide) (by omega) (by omega)), ite_p (and_bit0 hi25), nI_1]
    have same : br L i = false → ∀ k, k < 25 → bt B k = (decide (k < i + 1) && br L k) := fun q k hk => by
      rw [hb k hk]
      by_cases w : k = i
      · subst w; rw [q, Bool.and_false, Bool.and_false]
      · rw [show decide (k < i) = decide (k < i + 1) from by simp; omega]
    cases h : bt L i with
    | false =>
      rw [if_pos rfl, bn_some]
      exact ih (i + 1) n B (by omega) (by omega) hB (same (by unfold br; rw [h]; rfl))
    | true =>
      have ew : f_X2_heapsOf (L &&& (jshl (1 : Int32) (nI i) ^^^ (-1 : Int32))) = some (nI (nh (wo i L))) := x_heapsOf (cr_wo (c := i) hL)
      rw [if_neg (by decide), ew, bn_some, ite_le_nI (by omega) (by omega)]
      by_cases q : nh (wo i L) ≤ nh L
      · rw [if_pos q, bn_some]
        exact ih (i + 1) n B (by omega) (by omega) hB (same (by unfold br; rw [h]; simp [q]))
      · rw [if_neg q, bn_some]
        refine ih (i + 1) n _ (by omega) (by omega) (cr_add hB hi25) (fun k hk => ?_)
        rw [b_or, hb k hk, bt_one (by omega) (by omega)]
        by_cases w : k = i
        · subst w
          have : br L k = true := by unfold br; rw [h]; simp; omega
          rw [this]
          simp
        · rw [show decide (k < i) = decide (k < i + 1) from by simp; omega]
          simp [w]
theorem x_bridges {L : Int32} (hL : Cr L) : ∃ B', f_X5_bridgesOf L = some B' ∧ Cr B' ∧ ∀ k, k < 25 → bt B' k = br L k := by
  unfold f_X5_bridgesOf
  rw [x_heapsOf hL, bn_some]
  exact x_br_loop hL 25 0 1000 0 rfl (by decide) cr_0 (fun k hk => by rw [b_0]; simp)
