/-! a core read for the law -/
def rdF : List Int32 → Nat → Nat → Int32 → Nat → Nat × Nat × Int32
  | [], hp, fw, d, _ => (hp, fw, d)
  | h :: l, hp, fw, d, m => rdF l (hp + 1) (if hp + 1 = 1 then pc h else if fw ≤ pc h then fw else pc h) (if pc h < m then d else if pc h ≤ m then 0 else h) (max m (pc h))
theorem rdF_len : ∀ (l : List Int32) (hp fw : Nat) (d : Int32) (m : Nat), (rdF l hp fw d m).1 = hp + l.length
  | [], _, _, _, _ => rfl
  | h :: l, hp, fw, d, m => by unfold rdF; rw [rdF_len, List.length_cons]; omega
theorem nI_lt' {a b : Nat} (ha : a < 2 ^ 31) (hb : b < 2 ^ 31) : nI a < nI b ↔ a < b := nI_ltI ha hb
theorem jmax_nI {a b : Nat} (ha : a < 2 ^ 31) (hb : b < 2 ^ 31) : jmax (nI a) (nI b) = nI (max a b) := by
  unfold jmax
  rw [ite_p (nI_ltI ha hb)]
  split
  · rw [Nat.max_eq_right (by omega)]
  · rw [Nat.max_eq_left (by omega)]
theorem rdF_bd : ∀ (l : List Int32), (∀ h ∈ l, Cr h) → ∀ (hp fw : Nat) (d : Int32) (m : Nat), fw ≤ 25 → m ≤ 25 → Cr d → (rdF l hp fw d m).2.1 ≤ 25 ∧ Cr (rdF l hp fw d m).2.2
  | [], _, _, _, _, _, h1, _, h3 => ⟨h1, h3⟩
  | h :: l, hl, hp, fw, d, m, h1, h2, h3 => by
    unfold rdF
    have := pc_le h
    refine rdF_bd l (fun x hx => hl x (List.mem_cons_of_mem _ hx)) _ _ _ _ (by split; exact this; split <;> omega) (by omega) ?_
    split
    · exact h3
    · split
      · exact cr_0
      · exact hl h List.mem_cons_self
theorem x_reads_loop (g : Int32) : ∀ (m i n mo hp fw : Nat) (d r : Int32), Cr r → i + m = 25 → pc r ≤ m → m < n → mo ≤ 25 → hp ≤ i → fw ≤ 25 → f_X3_reads_33 g n (nI mo) r (nI i) (nI hp) (nI fw) d = some (g, nI (rdF (cps r) hp fw d mo).1, nI (rdF (cps r) hp fw d mo).2.1, (rdF (cps r) hp fw d mo).2.2) := by
  intro m
  induction m with
  | zero =>
    intro i n mo hp fw d r hr hi hp' hn hmo hhp hfw
    obtain ⟨n, rfl⟩ : ∃ k, n = k + 1 := ⟨n - 1, by omega⟩
    obtain rfl : i = 25 := by omega
    have : r = 0 := (pc_zero hr).mp (by omega)
    subst this
    rw [f_X3_reads_33_s, if_pos (by decide)]; rfl
  | succ m ih =>
    intro i n mo hp fw d r hr hi hp' hn hmo hhp hfw
    obtain ⟨n, rfl⟩ : ∃ k, n = k + 1 := ⟨n - 1, by omega⟩
    rw [f_X3_reads_33_s, if_neg (by show ¬ nI 25 ≤ nI i; rw [nI_leI (by omega) (by omega)]; omega)]
    by_cases h0 : r = 0
    · rw [if_pos h0, h0]; rfl
    · have hpl := pc_le (hd1 r)
      rw [if_neg h0, x_heap1, bn_some, x_bits (cr_hd1 hr), bn_some, jn_eq, jn_eq, rs1_def, jn_eq, nI_1, nI_1]
      have f1 : (if nI (hp + 1) = (1 : Int32) then nI (pc (hd1 r)) else (if nI fw ≤ nI (pc (hd1 r)) then nI fw else nI (pc (hd1 r)))) = nI (if hp + 1 = 1 then pc (hd1 r) else if fw ≤ pc (hd1 r) then fw else pc (hd1 r)) := by
        rw [ite_p (show (nI (hp + 1) = (1 : Int32)) ↔ hp + 1 = 1 from nI_eq (b := 1) (by omega) (by decide)), ite_p (nI_leI (by omega) (by omega))]
        split
        · rfl
        · split <;> rfl
      have f2 : (if nI (pc (hd1 r)) < nI mo then d else (if nI (pc (hd1 r)) ≤ nI mo then (0 : Int32) else hd1 r)) = (if pc (hd1 r) < mo then d else if pc (hd1 r) ≤ mo then 0 else hd1 r) := by
        rw [ite_p (nI_ltI (by omega) (by omega)), ite_p (nI_leI (by omega) (by omega))]
      rw [f1, f2, jmax_nI (by omega) (by omega), ih (i + 1) n _ _ _ _ (rs1 r) (cr_rs1 hr) (by omega) (by have := rs1_lt hr h0; omega) (by omega) (by omega) (by omega) (by split; exact hpl; split <;> omega), cps_ne hr h0]
      rfl
/-- THE DEED (0 in CHANCERY), the heaps, the least heap's cells, the cells gone -/
def dd (L : Int32) : Int32 := (rdF (cps L) 0 0 0 0).2.2
def fw (L : Int32) : Nat := (rdF (cps L) 0 0 0 0).2.1
def nh (L : Int32) : Nat := (cps L).length
theorem cr_dd {L : Int32} (hL : Cr L) : Cr (dd L) := (rdF_bd (cps L) (fun h q => (cps_cr hL h q).1) 0 0 0 0 (by decide) (by decide) cr_0).2
theorem fw_le {L : Int32} (hL : Cr L) : fw L ≤ 25 := (rdF_bd (cps L) (fun h q => (cps_cr hL h q).1) 0 0 0 0 (by decide) (by decide) cr_0).1
def gone (L : Int32) : Int32 := (25 : Int32) - nI (pc L)
theorem x_reads {L : Int32} (hL : Cr L) : f_X3_reads L = some (gone L, nI (nh L), nI (fw L), dd L) := by
  unfold f_X3_reads
  rw [x_bits hL, bn_some]
  have := x_reads_loop (gone L) 25 0 1000 0 0 0 0 L hL rfl (pc_le L) (by decide) (by decide) (by decide) (by decide)
  rw [rdF_len, Nat.zero_add] at this
  exact this
/-! the reference's deed -/
def mdF : List Int32 → Int32 → Int32 → Int32 × Int32
  | [], f, a => (f, a)
  | h :: l, f, a => if pc f < pc h then mdF l h 1 else mdF l f (if pc h = pc f then 0 else a)
theorem md_rd : ∀ (l : List Int32), (∀ h ∈ l, Cr h ∧ 1 ≤ pc h) → ∀ (hp fw : Nat) (f a : Int32), (a = 0 ∨ a = 1) → (if (mdF l f a).2 = 0 then 0 else (mdF l f a).1) = (rdF l hp fw (if a = 0 then 0 else f) (pc f)).2.2
  | [], _, _, _, _, _, _ => rfl
  | h :: l, hl, hp, fw, f, a, ha => by
    have hl' : ∀ x ∈ l, Cr x ∧ 1 ≤ pc x := fun x hx => hl x (List.mem_cons_of_mem _ hx)
    unfold mdF rdF
    by_cases q : pc f < pc h
    · rw [if_pos q, md_rd l hl' (hp + 1) _ h 1 (Or.inr rfl), if_neg (show ¬ (1 : Int32) = 0 by decide), if_neg (show ¬ pc h < pc f by omega), if_neg (show ¬ pc h ≤ pc f by omega), Nat.max_eq_right (by omega)]
    · rw [if_neg q, Nat.max_eq_left (by omega)]
      by_cases q2 : pc h = pc f
      · rw [if_pos q2, if_neg (show ¬ pc h < pc f by omega), if_pos (show pc h ≤ pc f by omega), md_rd l hl' (hp + 1) _ f 0 (Or.inl rfl), if_pos rfl]
      · rw [if_neg q2, if_pos (show pc h < pc f by omega), md_rd l hl' (hp + 1) _ f a ha]
theorem mdF_bd : ∀ (l : List Int32), (∀ h ∈ l, Cr h ∧ 1 ≤ pc h) → ∀ (f a : Int32), Cr f → Cr (mdF l f a).1
  | [], _, _, _, h => h
  | h :: l, hl, f, a, hf => by
    unfold mdF
    split
    · exact mdF_bd l (fun x hx => hl x (List.mem_cons_of_mem _ hx)) _ _ (hl h List.mem_cons_self).1
    · exact mdF_bd l (fun x hx => hl x (List.mem_cons_of_mem _ hx)) _ _ hf
theorem m_deed_loop {S : Int32} (hS : Cr S) (k : Int32 × Int32 → Option Int32) : ∀ (m : Nat) (r : Int32) (n : Nat) (f a : Int32), Cr r → Cr f → clo S r → pc r ≤ m → m < n → f_X6_deed_6 S k n f a r = k (mdF (cps r) f a) := by
  intro m
  induction m with
  | zero =>
    intro r n f a hr hf hc hp hn
    obtain ⟨n, rfl⟩ : ∃ k, n = k + 1 := ⟨n - 1, by omega⟩
    have : r = 0 := (pc_zero hr).mp (by omega)
    subst this
    rw [f_X6_deed_6_s, if_pos rfl]; rfl
  | succ m ih =>
    intro r n f a hr hf hc hp hn
    obtain ⟨n, rfl⟩ : ∃ k, n = k + 1 := ⟨n - 1, by omega⟩
    rw [f_X6_deed_6_s]
    by_cases h0 : r = 0
    · rw [if_pos h0, h0]; rfl
    · rw [if_neg h0]
      obtain ⟨c, h⟩ := ex_least hr h0
      have hh := cr_hd1 hr
      have e1 : (nI (pc (hd1 r)) = nI (pc f)) = (pc (hd1 r) = pc f) := propext (nI_eq (by have := pc_le (hd1 r); omega) (by have := pc_le f; omega))
      have e2 : (nI (pc f) < nI (pc (hd1 r))) = (pc f < pc (hd1 r)) := propext (nI_ltI (by have := pc_le f; omega) (by have := pc_le (hd1 r); omega))
      simp only [m_leastOf hr h, m_heap_least hS hr hc h, m_bits hh, m_bits hf, bn_some, jn_eq, rs1_def]
      rw [ih (rs1 r) n _ _ (cr_rs1 hr) (by split; exact hh; exact hf) (clo_rs hS hr hc h0) (by have := rs1_lt hr h0; omega) (by omega), cps_ne hr h0]
      show _ = k (if pc f < pc (hd1 r) then mdF (cps (rs1 r)) (hd1 r) 1 else mdF (cps (rs1 r)) f (if pc (hd1 r) = pc f then 0 else a))
      by_cases q : pc f < pc (hd1 r)
      · rw [if_pos q, if_pos (by rw [e2]; exact q)]
      · rw [if_neg q, if_neg (by rw [e2]; exact q), ite_p (show (nI (pc (hd1 r)) = nI (pc f)) ↔ (pc (hd1 r) = pc f) by rw [e1])]
theorem m_deed {S : Int32} (hS : Cr S) : f_X6_deed S = some (dd S) := by
  unfold f_X6_deed
  rw [m_deed_loop hS _ 25 S 1000 0 0 hS cr_0 (clo_self S) (pc_le S) (by decide)]
  have := md_rd (cps S) (cps_cr hS) 0 0 0 0 (Or.inl rfl)
  have e0 : pc (0 : Int32) = 0 := (pc_zero cr_0).mpr rfl
  rw [e0, if_pos rfl] at this
  rw [show dd S = (rdF (cps S) 0 0 0 0).2.2 from rfl, ← this]
  split <;> rfl
