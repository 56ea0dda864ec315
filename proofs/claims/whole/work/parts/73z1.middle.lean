/-! the middle -/
def st (L : Int32) (c : Nat) : Nat := fb_sm (sp c L) 25
theorem ds_le : ∀ c, c < 25 → ∀ i, i < 25 → ds c i ≤ 8 := by decide
theorem st_le {L : Int32} {c : Nat} (hc : c < 25) : st L c ≤ 200 := by
  have := fb_sm_bound (f := sp c L) (c := 8) (n := 25) (fun k hk => by
    unfold sp
    split
    · exact ds_le c hc k hk
    · omega)
  unfold st; omega
def Mid (L : Int32) (lo hi : Nat) (fo : Option Nat) : Prop := match fo with
  | none => ∀ k, lo ≤ k → k < hi → bt L k = false
  | some c => lo ≤ c ∧ c < hi ∧ bt L c = true ∧ (∀ k, lo ≤ k → k < hi → bt L k = true → st L c ≤ st L k) ∧ ∀ k, lo ≤ k → k < c → bt L k = true → st L c < st L k
theorem Mid_one {L : Int32} {lo hi : Nat} {f g : Option Nat} (hf : Mid L lo hi f) (hg : Mid L lo hi g) : f = g := by
  cases f with
  | none =>
    cases g with
    | none => rfl
    | some c => have := hf c hg.1 hg.2.1; rw [hg.2.2.1] at this; cases this
  | some a =>
    cases g with
    | none => have := hg a hf.1 hf.2.1; rw [hf.2.2.1] at this; cases this
    | some c =>
      obtain ⟨a1, a2, a3, a4, a5⟩ := hf
      obtain ⟨c1, c2, c3, c4, c5⟩ := hg
      rcases Nat.lt_trichotomy a c with w | w | w
      · have := c5 a a1 w a3; have := a4 c c1 c2 c3; omega
      · rw [w]
      · have := a5 c c1 w c3; have := c4 a a1 a2 a3; omega
theorem Mid_up {L : Int32} {lo i : Nat} (hlo : lo ≤ i) {fo : Option Nat} (h : Mid L lo i fo) : Mid L lo (i + 1) (if bt L i then (match fo with | none => some i | some c => if st L c ≤ st L i then some c else some i) else fo) := by
  cases hb : bt L i with
  | false =>
    rw [if_neg (by decide)]
    cases fo with
    | none =>
      intro k h1 h2
      by_cases w : k = i
      · rw [w]; exact hb
      · exact h k h1 (by omega)
    | some c =>
      refine ⟨h.1, by have := h.2.1; omega, h.2.2.1, fun k h1 h2 h3 => ?_, h.2.2.2.2⟩
      by_cases w : k = i
      · rw [w, hb] at h3; cases h3
      · exact h.2.2.2.1 k h1 (by omega) h3
  | true =>
    rw [if_pos rfl]
    cases fo with
    | none =>
      refine ⟨hlo, by omega, hb, fun k h1 h2 h3 => ?_, fun k h1 h2 h3 => ?_⟩
      · by_cases w : k = i
        · rw [w]; exact Nat.le_refl _
        · rw [h k h1 (by omega)] at h3; cases h3
      · rw [h k h1 h2] at h3; cases h3
    | some c =>
      by_cases q : st L c ≤ st L i
      · show Mid L lo (i + 1) (if st L c ≤ st L i then some c else some i)
        rw [if_pos q]
        refine ⟨h.1, by have := h.2.1; omega, h.2.2.1, fun k h1 h2 h3 => ?_, h.2.2.2.2⟩
        by_cases w : k = i
        · rw [w]; exact q
        · exact h.2.2.2.1 k h1 (by omega) h3
      · show Mid L lo (i + 1) (if st L c ≤ st L i then some c else some i)
        rw [if_neg q]
        refine ⟨hlo, by omega, hb, fun k h1 h2 h3 => ?_, fun k h1 h2 h3 => ?_⟩
        · by_cases w : k = i
          · rw [w]; exact Nat.le_refl _
          · have := h.2.2.2.1 k h1 (by omega) h3; omega
        · have := h.2.2.2.1 k h1 h2 h3; omega
theorem Mid_down {L : Int32} {i hi : Nat} (hhi : i < hi) {fo : Option Nat} (h : Mid L (i + 1) hi fo) : Mid L i hi (if bt L i then (match fo with | none => some i | some c => if st L c < st L i then some c else some i) else fo) := by
  cases hb : bt L i with
  | false =>
    rw [if_neg (by decide)]
    cases fo with
    | none =>
      intro k h1 h2
      by_cases w : k = i
      · rw [w]; exact hb
      · exact h k (by omega) h2
    | some c =>
      refine ⟨by have := h.1; omega, h.2.1, h.2.2.1, fun k h1 h2 h3 => ?_, fun k h1 h2 h3 => ?_⟩
      · by_cases w : k = i
        · rw [w, hb] at h3; cases h3
        · exact h.2.2.2.1 k (by omega) h2 h3
      · by_cases w : k = i
        · rw [w, hb] at h3; cases h3
        · exact h.2.2.2.2 k (by omega) h2 h3
  | true =>
    rw [if_pos rfl]
    cases fo with
    | none =>
      refine ⟨Nat.le_refl _, hhi, hb, fun k h1 h2 h3 => ?_, fun k h1 h2 h3 => by omega⟩
      by_cases w : k = i
      · rw [w]; exact Nat.le_refl _
      · rw [h k (by omega) h2] at h3; cases h3
    | some c =>
      by_cases q : st L c < st L i
      · show Mid L i hi (if st L c < st L i then some c else some i)
        rw [if_pos q]
        refine ⟨by have := h.1; omega, h.2.1, h.2.2.1, fun k h1 h2 h3 => ?_, fun k h1 h2 h3 => ?_⟩
        · by_cases w : k = i
          · rw [w]; omega
          · exact h.2.2.2.1 k (by omega) h2 h3
        · by_cases w : k = i
          · rw [w]; exact q
          · exact h.2.2.2.2 k (by omega) h2 h3
      · show Mid L i hi (if st L c < st L i then some c else some i)
        rw [if_neg q]
        refine ⟨Nat.le_refl _, hhi, hb, fun k h1 h2 h3 => ?_, fun k h1 h2 h3 => by omega⟩
        by_cases w : k = i
        · rw [w]; exact Nat.le_refl _
        · have := h.2.2.2.1 k (by omega) h2 h3; omega
