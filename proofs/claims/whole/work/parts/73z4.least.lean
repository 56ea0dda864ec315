/-! the list of heaps is the set of all cells' heaps -/
theorem cps_all {L : Int32} (hL : Cr L) : ∀ (n : Nat) (r : Int32), Cr r → pc r ≤ n → clo L r → (∀ c, c < 25 → bt r c = true → fl L (jshl (1 : Int32) (nI c)) ∈ cps r) ∧ ∀ h ∈ cps r, ∃ c, c < 25 ∧ bt r c = true ∧ fl L (jshl (1 : Int32) (nI c)) = h := by
  intro n
  induction n with
  | zero =>
    intro r hr hn hc
    obtain rfl : r = 0 := (pc_zero hr).mp (by omega)
    exact ⟨fun c hc q => absurd q (by rw [b_0]; decide), fun h q => absurd q (by rw [cps_zero]; exact List.not_mem_nil)⟩
  | succ n ih =>
    intro r hr hn hc
    by_cases hne : r = 0
    · subst hne
      exact ⟨fun c hc q => absurd q (by rw [b_0]; decide), fun h q => absurd q (by rw [cps_zero]; exact List.not_mem_nil)⟩
    · have I := ih (rs1 r) (cr_rs1 hr) (by have := rs1_lt hr hne; omega) (clo_rs hL hr hc hne)
      obtain ⟨l, hl⟩ := ex_least hr hne
      have e := clo_hd hL hr hc hl
      rw [cps_ne hr hne]
      refine ⟨fun c h25 q => ?_, fun h q => ?_⟩
      · cases w : bt (hd1 r) c with
        | true =>
          rw [← e] at w
          have := fl_same hL hl.1 h25 (hc.1 l hl.1 hl.2.1) w
          rw [this, e]
          exact List.mem_cons_self
        | false =>
          refine List.mem_cons_of_mem _ (I.1 c h25 ?_)
          rw [← rs1_def, bt_andn (by omega), q, w]
          rfl
      · rcases List.mem_cons.mp q with rfl | q
        · exact ⟨l, hl.1, hl.2.1, e⟩
        · obtain ⟨c, h1, h2, h3⟩ := I.2 h q
          rw [← rs1_def, bt_andn (by omega)] at h2
          exact ⟨c, h1, ((Bool.and_eq_true _ _).mp h2).1, h3⟩
theorem rdF_min : ∀ (l : List Int32) (hp f : Nat) (d : Int32) (m : Nat), 1 ≤ hp → (rdF l hp f d m).2.1 ≤ f ∧ (∀ h ∈ l, (rdF l hp f d m).2.1 ≤ pc h) ∧ ((rdF l hp f d m).2.1 = f ∨ ∃ h ∈ l, (rdF l hp f d m).2.1 = pc h)
  | [], hp, f, d, m, _ => ⟨Nat.le_refl _, fun h q => absurd q List.not_mem_nil, Or.inl rfl⟩
  | h :: l, hp, f, d, m, h1 => by
    unfold rdF
    rw [if_neg (show ¬ hp + 1 = 1 by omega)]
    have I := rdF_min l (hp + 1) (if f ≤ pc h then f else pc h) (if pc h < m then d else if pc h ≤ m then 0 else h) (max m (pc h)) (by omega)
    generalize (rdF l (hp + 1) (if f ≤ pc h then f else pc h) (if pc h < m then d else if pc h ≤ m then 0 else h) (max m (pc h))).2.1 = v at I
    by_cases q : f ≤ pc h
    · rw [if_pos q] at I
      refine ⟨I.1, fun g hg => ?_, ?_⟩
      · rcases List.mem_cons.mp hg with rfl | hg
        · omega
        · exact I.2.1 g hg
      · rcases I.2.2 with e | ⟨g, hg, e⟩
        · exact Or.inl e
        · exact Or.inr ⟨g, List.mem_cons_of_mem _ hg, e⟩
    · rw [if_neg q] at I
      refine ⟨by omega, fun g hg => ?_, ?_⟩
      · rcases List.mem_cons.mp hg with rfl | hg
        · exact I.1
        · exact I.2.1 g hg
      · rcases I.2.2 with e | ⟨g, hg, e⟩
        · exact Or.inr ⟨h, List.mem_cons_self, e⟩
        · exact Or.inr ⟨g, List.mem_cons_of_mem _ hg, e⟩
theorem fw_min {L : Int32} (hL : Cr L) (hne : L ≠ 0) : (∀ h ∈ cps L, fw L ≤ pc h) ∧ ∃ h ∈ cps L, fw L = pc h := by
  unfold fw
  rw [cps_ne hL hne]
  unfold rdF
  rw [if_pos (show 0 + 1 = 1 from rfl)]
  have I := rdF_min (cps (rs1 L)) (0 + 1) (pc (hd1 L)) (if pc (hd1 L) < 0 then 0 else if pc (hd1 L) ≤ 0 then 0 else hd1 L) (max 0 (pc (hd1 L))) (by omega)
  refine ⟨fun g hg => ?_, ?_⟩
  · rcases List.mem_cons.mp hg with rfl | hg
    · exact I.1
    · exact I.2.1 g hg
  · rcases I.2.2 with e | ⟨g, hg, e⟩
    · exact ⟨_, List.mem_cons_self, e⟩
    · exact ⟨g, List.mem_cons_of_mem _ hg, e⟩
