/-! edge: the holes -/
def hol : List Int32 → Nat
  | [] => 0
  | h :: l => (if h &&& (33080895 : Int32) = 0 then 1 else 0) + hol l
theorem m_border : f_X6_border = some (33080895 : Int32) := by decide +kernel
theorem x_holes_loop : ∀ (m i n cnt : Nat) (r : Int32), Cr r → i + m = 25 → pc r ≤ m → m < n → f_X2_holesOf_11 n (nI cnt) r (nI i) = some (nI (cnt + hol (cps r))) := by
  intro m
  induction m with
  | zero =>
    intro i n cnt r hr hi hp hn
    obtain ⟨n, rfl⟩ := fuel hn
    obtain rfl : i = 25 := by omega
    have : r = 0 := (pc_zero hr).mp (by omega)
    subst this
    rw [f_X2_holesOf_11_s, if_pos (by decide)]; rfl
  | succ m ih =>
    intro i n cnt r hr hi hp hn
    obtain ⟨n, rfl⟩ := fuel hn
    rw [f_X2_holesOf_11_s, if_neg (show ¬ (25 : Int32) ≤ nI i from nI_nle' (a := 25) (by decide) (by omega) (by omega))]
    by_cases h0 : r = 0
    · rw [if_pos h0, h0]; rfl
    · rw [if_neg h0, x_heap1, bn_some, jn_eq, rs1_def, nI_1, nI_1, cps_ne hr h0]
      have hlt := rs1_lt hr h0
      show _ = some (nI (cnt + ((if hd1 r &&& (33080895 : Int32) = 0 then 1 else 0) + hol (cps (rs1 r)))))
      by_cases q : hd1 r &&& (33080895 : Int32) = 0
      · rw [if_pos q, if_pos q, ih (i + 1) n (cnt + 1) (rs1 r) (cr_rs1 hr) (by omega) (by omega) (by omega), Nat.add_assoc]
      · rw [if_neg q, if_neg q, ih (i + 1) n cnt (rs1 r) (cr_rs1 hr) (by omega) (by omega) (by omega), Nat.zero_add]
theorem m_holes_loop {S : Int32} (hS : Cr S) (rf : Nat → Int32) : ∀ (k : Nat) (r : Int32) (n cnt : Nat), Cr r → clo S r → pc r ≤ k → k < n → f_X6_edge_89 S rf n (nI cnt) r = some (nI (cnt + hol (cps r)), rf) := by
  intro k
  induction k with
  | zero =>
    intro r n cnt hr hc hk hn
    obtain ⟨n, rfl⟩ := fuel hn
    have : r = 0 := (pc_zero hr).mp (by omega)
    subst this
    rw [f_X6_edge_89_s, if_pos rfl]; rfl
  | succ k ih =>
    intro r n cnt hr hc hk hn
    obtain ⟨n, rfl⟩ := fuel hn
    rw [f_X6_edge_89_s]
    by_cases h0 : r = 0
    · rw [if_pos h0, h0]; rfl
    · obtain ⟨c, h⟩ := ex_least hr h0
      have hlt := rs1_lt hr h0
      rw [if_neg h0, m_leastOf hr h, bn_some, m_heap_least hS hr hc h, bn_some, m_border, bn_some, jn_eq, bn_some, m_heap_least hS hr hc h, bn_some, rs1_def, cps_ne hr h0]
      show _ = some (nI (cnt + ((if hd1 r &&& (33080895 : Int32) = 0 then 1 else 0) + hol (cps (rs1 r)))), rf)
      by_cases q : hd1 r &&& (33080895 : Int32) = 0
      · rw [if_pos q, if_pos q, nI_1, ih (rs1 r) n (cnt + 1) (cr_rs1 hr) (clo_rs hS hr hc h0) (by omega) (by omega), Nat.add_assoc]
      · rw [if_neg q, if_neg q, show ∀ x : Nat, nI x + (0 : Int32) = nI (x + 0) from fun x => nI_add x 0, Nat.add_zero, ih (rs1 r) n cnt (cr_rs1 hr) (clo_rs hS hr hc h0) (by omega) (by omega), Nat.zero_add]
def gap (L : Int32) : Int32 := (33554431 : Int32) &&& (L ^^^ (-1 : Int32))
theorem cr_gap (L : Int32) : Cr (gap L) := cr_and _ cr_all
theorem x_holes (L : Int32) : f_X2_holesOf L = some (nI (hol (cps (gap L)))) := by
  have := x_holes_loop 25 0 1000 0 (gap L) (cr_gap L) rfl (pc_le _) (by decide)
  rw [Nat.zero_add] at this
  exact this
theorem m_holes (L : Int32) (rf : Nat → Int32) : f_X6_edge_89 (gap L) rf 1000 (0 : Int32) (gap L) = some (nI (hol (cps (gap L))), rf) := by
  have := m_holes_loop (cr_gap L) rf 25 (gap L) 1000 0 (cr_gap L) (clo_self _) (pc_le _) (by decide)
  rw [Nat.zero_add] at this
  exact this
