/-! steps between cells -/
def ds (c i : Nat) : Nat := (max (c / 5) (i / 5) - min (c / 5) (i / 5)) + (max (c % 5) (i % 5) - min (c % 5) (i % 5))
theorem ds_x : ∀ c, c < 25 → ∀ i, i < 25 → jabs ((nI c / (5 : Int32)) - (nI i / (5 : Int32))) + jabs (jrem (nI c) (5 : Int32) - jrem (nI i) (5 : Int32)) = nI (ds c i) := by decide +kernel
theorem ds_m : ∀ c, c < 25 → ∀ i, i < 25 → (bn (f_X6_most ((nI i / (5 : Int32)) - (nI c / (5 : Int32))) (-((nI i / (5 : Int32)) - (nI c / (5 : Int32))))) (fun (r4 : Int32) => bn (f_X6_most ((jrem (nI i) (5 : Int32)) - (jrem (nI c) (5 : Int32))) (-((jrem (nI i) (5 : Int32)) - (jrem (nI c) (5 : Int32))))) (fun (r6 : Int32) => some (r4 + r6)))) = some (nI (ds c i)) := by decide +kernel
def sp (c : Nat) (L : Int32) (i : Nat) : Nat := if bt L i then ds c i else 0
theorem x_steps_loop {L : Int32} {c : Nat} (hc : c < 25) : ∀ (m i n : Nat), i + m = 25 → m < n → f_X2_stepsToAll_4 (nI c) L n (nI (fb_sm (sp c L) i)) (nI i) = some (nI (fb_sm (sp c L) 25)) := by
  intro m
  induction m with
  | zero =>
    intro i n hi hn
    obtain ⟨n, rfl⟩ := fuel hn
    obtain rfl : i = 25 := by omega
    rw [f_X2_stepsToAll_4_s, if_pos (by decide)]
  | succ m ih =>
    intro i n hi hn
    obtain ⟨n, rfl⟩ := fuel hn
    rw [f_X2_stepsToAll_4_s, if_neg (show ¬ (25 : Int32) ≤ nI i from nI_nle' (a := 25) (by decide) (by omega) (by omega)), ds_x c hc i (by omega), jn_eq, ite_p (and_bit0 (by omega)), nI_1, nI_add]
    have e : (if bt L i = false then nI (fb_sm (sp c L) i) else nI (fb_sm (sp c L) i + ds c i)) = nI (fb_sm (sp c L) (i + 1)) := by
      rw [fb_sm_succ]
      unfold sp
      cases bt L i <;> rfl
    rw [e]
    exact ih (i + 1) n (by omega) (by omega)
theorem x_steps {L : Int32} {c : Nat} (hc : c < 25) : f_X2_stepsToAll (nI c) L = some (nI (fb_sm (sp c L) 25)) := x_steps_loop hc 25 0 1000 rfl (by decide)
theorem m_steps_loop {L : Int32} (hL : Cr L) {c : Nat} (hc : c < 25) : ∀ (m i n : Nat), i + m = 25 → m < n → f_X6_stepsFrom_4 (nI c) L n (nI (fb_sm (sp c L) i)) (nI i) = some (nI (fb_sm (sp c L) 25)) := by
  intro m
  induction m with
  | zero =>
    intro i n hi hn
    obtain ⟨n, rfl⟩ := fuel hn
    obtain rfl : i = 25 := by omega
    rw [f_X6_stepsFrom_4_s, if_pos (by decide)]
  | succ m ih =>
    intro i n hi hn
    obtain ⟨n, rfl⟩ := fuel hn
    rw [f_X6_stepsFrom_4_s, if_neg (show ¬ (25 : Int32) ≤ nI i from nI_nle' (a := 25) (by decide) (by omega) (by omega)), m_has hL (by omega), bn_some, ds_m c hc i (by omega), nI_1]
    have I := ih (i + 1) n (by omega) (by omega)
    rw [fb_sm_succ] at I
    have e : sp c L i = if bt L i then ds c i else 0 := rfl
    rw [e] at I
    cases h : bt L i with
    | false =>
      rw [h] at I
      rw [if_pos (show nI (if false = true then 1 else 0) = 0 from rfl), bn_some, show ∀ x : Nat, nI x + (0 : Int32) = nI (x + 0) from fun x => nI_add x 0]
      exact I
    | true =>
      rw [h] at I
      rw [if_neg (show ¬ nI (if true = true then 1 else 0) = 0 by decide), bn_some, nI_add]
      exact I
theorem m_steps {L : Int32} (hL : Cr L) {c : Nat} (hc : c < 25) : f_X6_stepsFrom L (nI c) = some (nI (fb_sm (sp c L) 25)) := m_steps_loop hL hc 25 0 1000 rfl (by decide)
