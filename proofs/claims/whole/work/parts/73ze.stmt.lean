/-! core: the reference's statement -/
def n0S (a : Nat → Nat) (p : Nat) : Nat := if fm (a p) = 0 then kd (a (p + 1)) else if fm (a p) = 2 then 10 * (a (p + 1) - 48) + (a (p + 2) - 48) else a (p + 1) - 48
def n1S (a : Nat → Nat) (p : Nat) : Nat := if fm (a p) = 0 then a (p + 2) - 48 else 10 * (a (p + 2) - 48) + (a (p + 3) - 48)
def RdS (N : Nat) (a : Nat → Nat) (ml : Nat → Int32) (p : Nat) (nums : Nat → Int32) : Prop := ∃ nums', f_X6_readsStatement (nI N) (nI p) ml nums = some (nI (if okS N a p then 1 else 0), nI (p + MM N a p), nums') ∧ (okS N a p = true → (fm (a p) < 4 → nums' 0 = nI (n0S a p)) ∧ (fm (a p) < 2 → nums' 1 = nI (n1S a p)))
theorem rd_no {N : Nat} {a : Nat → Nat} {ml : Nat → Int32} {p m : Nat} {nums nums' : Nat → Int32} (hm : MM N a p = m) (hl : m < lnF (fm (a p)) ∨ lnF (fm (a p)) = 0) (e : f_X6_readsStatement (nI N) (nI p) ml nums = some ((0 : Int32), nI (p + m), nums')) : RdS N a ml p nums := by
  have ok : okS N a p = false := by
    unfold okS
    rw [hm]
    rcases hl with q | q
    · rw [decide_eq_false (show ¬ m = lnF (fm (a p)) by omega), Bool.and_false]
    · rw [decide_eq_false (show ¬ 0 < lnF (fm (a p)) by omega), Bool.false_and]
  refine ⟨nums', ?_, fun q => ?_⟩
  · rw [e, ok, hm]; rfl
  · rw [ok] at q; cases q
theorem rd_yes {N : Nat} {a : Nat → Nat} {ml : Nat → Int32} {p m : Nat} {nums nums' : Nat → Int32} (hm : MM N a p = m) (hl : m = lnF (fm (a p))) (h0 : 0 < m) (e : f_X6_readsStatement (nI N) (nI p) ml nums = some ((1 : Int32), nI (p + m), nums')) (hv : (fm (a p) < 4 → nums' 0 = nI (n0S a p)) ∧ (fm (a p) < 2 → nums' 1 = nI (n1S a p))) : RdS N a ml p nums := by
  have ok : okS N a p = true := by
    unfold okS
    rw [hm, ← hl, decide_eq_true h0, decide_eq_true rfl]
    rfl
  refine ⟨nums', ?_, fun _ => hv⟩
  rw [e, ok, hm]; rfl
theorem rd_b {N : Nat} {a : Nat → Nat} {ml : Nat → Int32} (h : LT N a ml) {p : Nat} (hp : p < N) (hc : a p = 98) (nums : Nat → Int32) : RdS N a ml p nums := by
  have hN := h.1
  obtain ⟨f, mm⟩ := MM_b hp hc
  obtain ⟨e, l⟩ := LT_let h hp
  obtain ⟨n1, e1, o1, w1⟩ := m_num1 h (k := p + 1) (by omega) (s := 0) (by decide) nums
  obtain ⟨n2, e2, o2, w2⟩ := m_num2 h (k := p + 2) (by omega) (s := 1) (by decide) n1
  have l5 : lnF (fm (a p)) = 5 := by rw [f]; rfl
  have st : f_X6_readsStatement (nI N) (nI p) ml nums = (bn (f_X6_readsNumber (nI N) (nI (p + 1)) ml nums (0 : Int32) (1 : Int32)) (fun (r3 : Int32 × Int32 × (Nat → Int32)) => bn (if r3.1 = 0 then (some ((0 : Int32), r3.2.2, r3.2.1)) else (bn (f_X6_readsNumber (nI N) r3.2.1 ml r3.2.2 (1 : Int32) (2 : Int32)) (fun (r6 : Int32 × Int32 × (Nat → Int32)) => if r6.1 = 0 then (some ((0 : Int32), r6.2.2, r6.2.1)) else (some ((1 : Int32), r6.2.2, r6.2.1))))) (fun (j5 : Int32 × (Nat → Int32) × Int32) => if j5.1 = 0 then (some ((0 : Int32), j5.2.2, j5.2.1)) else (bn (f_X6_here (nI N) j5.2.2 ml) (fun (r10 : Int32) => if r10 = (59 : Int32) then (some ((1 : Int32), j5.2.2 + (1 : Int32), j5.2.1)) else (some ((0 : Int32), j5.2.2, j5.2.1))))))) := by
    unfold f_X6_readsStatement
    rw [m_here h (by omega), bn_some, e, if_pos (show nI (a p) = (98 : Int32) by rw [hc]; rfl), nI_1]
  cases d1 : Dg N a (p + 1) with
  | false =>
    have e1b : f_X6_readsNumber (nI N) (nI (p + 1)) ml nums (0 : Int32) (1 : Int32) = some ((0 : Int32), nI (p + 1), n1) := by rw [d1] at e1; exact e1
    refine rd_no (m := 1) (nums' := n1) (by rw [mm, d1]; rfl) (Or.inl (by omega)) ?_
    rw [st, e1b, bn_some, if_pos rfl, bn_some, if_pos rfl]
  | true =>
    have e1b : f_X6_readsNumber (nI N) (nI (p + 1)) ml nums (0 : Int32) (1 : Int32) = some ((1 : Int32), nI (p + 2), n1) := by rw [d1] at e1; exact e1
    rw [e1b, bn_some, if_neg (show ¬ (1 : Int32) = 0 by decide)] at st
    cases d2 : Dg N a (p + 2) with
    | false =>
      have e2b : f_X6_readsNumber (nI N) (nI (p + 2)) ml n1 (1 : Int32) (2 : Int32) = some ((0 : Int32), nI (p + 2), n2) := by rw [d2] at e2; exact e2
      refine rd_no (m := 2) (nums' := n2) (by rw [mm, d1, d2]; rfl) (Or.inl (by omega)) ?_
      rw [st, e2b, bn_some, if_pos rfl, bn_some, if_pos rfl]
    | true =>
      cases d3 : Dg N a (p + 3) with
      | false =>
        have d3' : Dg N a (p + 2 + 1) = false := d3
        have e2b : f_X6_readsNumber (nI N) (nI (p + 2)) ml n1 (1 : Int32) (2 : Int32) = some ((0 : Int32), nI (p + 3), n2) := by rw [d2, d3'] at e2; exact e2
        refine rd_no (m := 3) (nums' := n2) (by rw [mm, d1, d2, d3]; rfl) (Or.inl (by omega)) ?_
        rw [st, e2b, bn_some, if_pos rfl, bn_some, if_pos rfl]
      | true =>
        have d3' : Dg N a (p + 2 + 1) = true := d3
        have e2b : f_X6_readsNumber (nI N) (nI (p + 2)) ml n1 (1 : Int32) (2 : Int32) = some ((1 : Int32), nI (p + 4), n2) := by rw [d2, d3'] at e2; exact e2
        rw [e2b, bn_some, if_neg (show ¬ (1 : Int32) = 0 by decide), bn_some, if_neg (show ¬ (1 : Int32) = 0 by decide), m_here h (by omega), bn_some, ite_p (ltr_59 h (p + 4))] at st
        cases d4 : Sc N a (p + 4) with
        | false =>
          rw [d4, if_neg (by decide)] at st
          exact rd_no (m := 4) (nums' := n2) (by rw [mm, d1, d2, d3, d4]; rfl) (Or.inl (by omega)) st
        | true =>
          rw [d4, if_pos rfl, nI_1] at st
          refine rd_yes (m := 5) (nums' := n2) (by rw [mm, d1, d2, d3, d4]; rfl) l5.symm (by decide) st ⟨fun _ => ?_, fun _ => ?_⟩
          · rw [o2 0 (by decide), w1 d1]
            unfold n0S
            rw [f]; rfl
          · rw [w2 d2 d3']
            unfold n1S
            rw [f]; rfl
theorem rd_h {N : Nat} {a : Nat → Nat} {ml : Nat → Int32} (h : LT N a ml) {p : Nat} (hp : p < N) (hc : a p = 104) (nums : Nat → Int32) : RdS N a ml p nums := by
  have hN := h.1
  obtain ⟨f, mm⟩ := MM_h hp hc
  obtain ⟨e, l⟩ := LT_let h hp
  obtain ⟨n1, e1, w1⟩ := m_kind h (k := p + 1) (by omega) nums
  obtain ⟨n2, e2, o2, w2⟩ := m_num1 h (k := p + 2) (by omega) (s := 1) (by decide) n1
  have l5 : lnF (fm (a p)) = 4 := by rw [f]; rfl
  have st : f_X6_readsStatement (nI N) (nI p) ml nums = (bn (f_X6_readsKind (nI N) (nI (p + 1)) ml nums) (fun (r15 : Int32 × Int32 × (Nat → Int32)) => bn (if r15.1 = 0 then (some ((0 : Int32), r15.2.2, r15.2.1)) else (bn (f_X6_readsNumber (nI N) r15.2.1 ml r15.2.2 (1 : Int32) (1 : Int32)) (fun (r18 : Int32 × Int32 × (Nat → Int32)) => if r18.1 = 0 then (some ((0 : Int32), r18.2.2, r18.2.1)) else (some ((1 : Int32), r18.2.2, r18.2.1))))) (fun (j17 : Int32 × (Nat → Int32) × Int32) => if j17.1 = 0 then (some ((0 : Int32), j17.2.2, j17.2.1)) else (bn (f_X6_here (nI N) j17.2.2 ml) (fun (r22 : Int32) => if r22 = (59 : Int32) then (some ((1 : Int32), j17.2.2 + (1 : Int32), j17.2.1)) else (some ((0 : Int32), j17.2.2, j17.2.1))))))) := by
    unfold f_X6_readsStatement
    rw [m_here h (by omega), bn_some, e, if_neg (show ¬ nI (a p) = (98 : Int32) by rw [hc]; decide), if_pos (show nI (a p) = (104 : Int32) by rw [hc]; rfl), nI_1]
  cases d1 : Kk N a (p + 1) with
  | false =>
    have e1b : f_X6_readsKind (nI N) (nI (p + 1)) ml nums = some ((0 : Int32), nI (p + 1), n1) := by rw [d1] at e1; exact e1
    refine rd_no (m := 1) (nums' := n1) (by rw [mm, d1]; rfl) (Or.inl (by omega)) ?_
    rw [st, e1b, bn_some, if_pos rfl, bn_some, if_pos rfl]
  | true =>
    have e1b : f_X6_readsKind (nI N) (nI (p + 1)) ml nums = some ((1 : Int32), nI (p + 2), n1) := by rw [d1] at e1; exact e1
    rw [e1b, bn_some, if_neg (show ¬ (1 : Int32) = 0 by decide)] at st
    cases d2 : Dg N a (p + 2) with
    | false =>
      have e2b : f_X6_readsNumber (nI N) (nI (p + 2)) ml n1 (1 : Int32) (1 : Int32) = some ((0 : Int32), nI (p + 2), n2) := by rw [d2] at e2; exact e2
      refine rd_no (m := 2) (nums' := n2) (by rw [mm, d1, d2]; rfl) (Or.inl (by omega)) ?_
      rw [st, e2b, bn_some, if_pos rfl, bn_some, if_pos rfl]
    | true =>
      have e2b : f_X6_readsNumber (nI N) (nI (p + 2)) ml n1 (1 : Int32) (1 : Int32) = some ((1 : Int32), nI (p + 3), n2) := by rw [d2] at e2; exact e2
      rw [e2b, bn_some, if_neg (show ¬ (1 : Int32) = 0 by decide), bn_some, if_neg (show ¬ (1 : Int32) = 0 by decide), m_here h (by omega), bn_some, ite_p (ltr_59 h (p + 3))] at st
      cases d4 : Sc N a (p + 3) with
      | false =>
        rw [d4, if_neg (by decide)] at st
        exact rd_no (m := 3) (nums' := n2) (by rw [mm, d1, d2, d4]; rfl) (Or.inl (by omega)) st
      | true =>
        rw [d4, if_pos rfl, nI_1] at st
        refine rd_yes (m := 4) (nums' := n2) (by rw [mm, d1, d2, d4]; rfl) l5.symm (by decide) st ⟨fun _ => ?_, fun _ => ?_⟩
        · rw [o2 0 (by decide), w1 d1]
          unfold n0S
          rw [f]; rfl
        · rw [w2 d2]
          unfold n1S
          rw [f]; rfl
theorem rd_l {N : Nat} {a : Nat → Nat} {ml : Nat → Int32} (h : LT N a ml) {p : Nat} (hp : p < N) (hc : a p = 108) (nums : Nat → Int32) : RdS N a ml p nums := by
  have hN := h.1
  obtain ⟨f, mm⟩ := MM_l hp hc
  obtain ⟨e, l⟩ := LT_let h hp
  obtain ⟨n2, e2, o2, w2⟩ := m_num2 h (k := p + 1) (by omega) (s := 0) (by decide) nums
  have l5 : lnF (fm (a p)) = 4 := by rw [f]; rfl
  have st : f_X6_readsStatement (nI N) (nI p) ml nums = (bn (f_X6_readsNumber (nI N) (nI (p + 1)) ml nums (0 : Int32) (2 : Int32)) (fun (r27 : Int32 × Int32 × (Nat → Int32)) => if r27.1 = 0 then (some ((0 : Int32), r27.2.1, r27.2.2)) else (bn (f_X6_here (nI N) r27.2.1 ml) (fun (r29 : Int32) => if r29 = (59 : Int32) then (some ((1 : Int32), r27.2.1 + (1 : Int32), r27.2.2)) else (some ((0 : Int32), r27.2.1, r27.2.2)))))) := by
    unfold f_X6_readsStatement
    rw [m_here h (by omega), bn_some, e, if_neg (show ¬ nI (a p) = (98 : Int32) by rw [hc]; decide), if_neg (show ¬ nI (a p) = (104 : Int32) by rw [hc]; decide), if_pos (show nI (a p) = (108 : Int32) by rw [hc]; rfl), nI_1]
  cases d2 : Dg N a (p + 1) with
  | false =>
    have e2b : f_X6_readsNumber (nI N) (nI (p + 1)) ml nums (0 : Int32) (2 : Int32) = some ((0 : Int32), nI (p + 1), n2) := by rw [d2] at e2; exact e2
    refine rd_no (m := 1) (nums' := n2) (by rw [mm, d2]; rfl) (Or.inl (by omega)) ?_
    rw [st, e2b, bn_some, if_pos rfl]
  | true =>
    cases d3 : Dg N a (p + 2) with
    | false =>
      have d3' : Dg N a (p + 1 + 1) = false := d3
      have e2b : f_X6_readsNumber (nI N) (nI (p + 1)) ml nums (0 : Int32) (2 : Int32) = some ((0 : Int32), nI (p + 2), n2) := by rw [d2, d3'] at e2; exact e2
      refine rd_no (m := 2) (nums' := n2) (by rw [mm, d2, d3]; rfl) (Or.inl (by omega)) ?_
      rw [st, e2b, bn_some, if_pos rfl]
    | true =>
      have d3' : Dg N a (p + 1 + 1) = true := d3
      have e2b : f_X6_readsNumber (nI N) (nI (p + 1)) ml nums (0 : Int32) (2 : Int32) = some ((1 : Int32), nI (p + 3), n2) := by rw [d2, d3'] at e2; exact e2
      rw [e2b, bn_some, if_neg (show ¬ (1 : Int32) = 0 by decide), m_here h (by omega), bn_some, ite_p (ltr_59 h (p + 3))] at st
      cases d4 : Sc N a (p + 3) with
      | false =>
        rw [d4, if_neg (by decide)] at st
        exact rd_no (m := 3) (nums' := n2) (by rw [mm, d2, d3, d4]; rfl) (Or.inl (by omega)) st
      | true =>
        rw [d4, if_pos rfl, nI_1] at st
        refine rd_yes (m := 4) (nums' := n2) (by rw [mm, d2, d3, d4]; rfl) l5.symm (by decide) st ⟨fun _ => ?_, fun q => absurd q (by rw [f]; decide)⟩
        rw [w2 d2 d3']
        unfold n0S
        rw [f]; rfl
theorem rd_r {N : Nat} {a : Nat → Nat} {ml : Nat → Int32} (h : LT N a ml) {p : Nat} (hp : p < N) (hc : a p = 114) (nums : Nat → Int32) : RdS N a ml p nums := by
  have hN := h.1
  obtain ⟨f, mm⟩ := MM_r hp hc
  obtain ⟨e, l⟩ := LT_let h hp
  obtain ⟨n2, e2, o2, w2⟩ := m_num1 h (k := p + 1) (by omega) (s := 0) (by decide) nums
  have l5 : lnF (fm (a p)) = 3 := by rw [f]; rfl
  have st : f_X6_readsStatement (nI N) (nI p) ml nums = (bn (f_X6_readsNumber (nI N) (nI (p + 1)) ml nums (0 : Int32) (1 : Int32)) (fun (r39 : Int32 × Int32 × (Nat → Int32)) => if r39.1 = 0 then (some ((0 : Int32), r39.2.1, r39.2.2)) else (bn (f_X6_here (nI N) r39.2.1 ml) (fun (r41 : Int32) => if r41 = (59 : Int32) then (some ((1 : Int32), r39.2.1 + (1 : Int32), r39.2.2)) else (some ((0 : Int32), r39.2.1, r39.2.2)))))) := by
    unfold f_X6_readsStatement
    rw [m_here h (by omega), bn_some, e, if_neg (show ¬ nI (a p) = (98 : Int32) by rw [hc]; decide), if_neg (show ¬ nI (a p) = (104 : Int32) by rw [hc]; decide), if_neg (show ¬ nI (a p) = (108 : Int32) by rw [hc]; decide), if_neg (show ¬ nI (a p) = (110 : Int32) by rw [hc]; decide), if_pos (show nI (a p) = (114 : Int32) by rw [hc]; rfl), nI_1]
  cases d2 : Dg N a (p + 1) with
  | false =>
    have e2b : f_X6_readsNumber (nI N) (nI (p + 1)) ml nums (0 : Int32) (1 : Int32) = some ((0 : Int32), nI (p + 1), n2) := by rw [d2] at e2; exact e2
    refine rd_no (m := 1) (nums' := n2) (by rw [mm, d2]; rfl) (Or.inl (by omega)) ?_
    rw [st, e2b, bn_some, if_pos rfl]
  | true =>
    have e2b : f_X6_readsNumber (nI N) (nI (p + 1)) ml nums (0 : Int32) (1 : Int32) = some ((1 : Int32), nI (p + 2), n2) := by rw [d2] at e2; exact e2
    rw [e2b, bn_some, if_neg (show ¬ (1 : Int32) = 0 by decide), m_here h (by omega), bn_some, ite_p (ltr_59 h (p + 2))] at st
    cases d4 : Sc N a (p + 2) with
    | false =>
      rw [d4, if_neg (by decide)] at st
      exact rd_no (m := 2) (nums' := n2) (by rw [mm, d2, d4]; rfl) (Or.inl (by omega)) st
    | true =>
      rw [d4, if_pos rfl, nI_1] at st
      refine rd_yes (m := 3) (nums' := n2) (by rw [mm, d2, d4]; rfl) l5.symm (by decide) st ⟨fun _ => ?_, fun q => absurd q (by rw [f]; decide)⟩
      rw [w2 d2]
      unfold n0S
      rw [f]; rfl
theorem rd_n {N : Nat} {a : Nat → Nat} {ml : Nat → Int32} (h : LT N a ml) {p : Nat} (hp : p < N) (hc : a p = 110) (nums : Nat → Int32) : RdS N a ml p nums := by
  have hN := h.1
  obtain ⟨f, mm⟩ := MM_n hp hc
  obtain ⟨e, l⟩ := LT_let h hp
  have l5 : lnF (fm (a p)) = 2 := by rw [f]; rfl
  have st : f_X6_readsStatement (nI N) (nI p) ml nums = (bn (f_X6_here (nI N) (nI (p + 1)) ml) (fun (r34 : Int32) => if r34 = (59 : Int32) then (some ((1 : Int32), nI (p + 1) + (1 : Int32), nums)) else (some ((0 : Int32), nI (p + 1), nums)))) := by
    unfold f_X6_readsStatement
    rw [m_here h (by omega), bn_some, e, if_neg (show ¬ nI (a p) = (98 : Int32) by rw [hc]; decide), if_neg (show ¬ nI (a p) = (104 : Int32) by rw [hc]; decide), if_neg (show ¬ nI (a p) = (108 : Int32) by rw [hc]; decide), if_pos (show nI (a p) = (110 : Int32) by rw [hc]; rfl), if_neg (show ¬ (1 : Int32) = 0 by decide), nI_1]
  rw [m_here h (by omega), bn_some, ite_p (ltr_59 h (p + 1))] at st
  cases d4 : Sc N a (p + 1) with
  | false =>
    rw [d4, if_neg (by decide)] at st
    exact rd_no (m := 1) (nums' := nums) (by rw [mm, d4]; rfl) (Or.inl (by omega)) st
  | true =>
    rw [d4, if_pos rfl, nI_1] at st
    exact rd_yes (m := 2) (nums' := nums) (by rw [mm, d4]; rfl) l5.symm (by decide) st ⟨fun q => absurd q (by rw [f]; decide), fun q => absurd q (by rw [f]; decide)⟩
theorem m_read {N : Nat} {a : Nat → Nat} {ml : Nat → Int32} (h : LT N a ml) {p : Nat} (hp : p < N) (nums : Nat → Int32) : RdS N a ml p nums := by
  have hN := h.1
  by_cases c1 : a p = 98
  · exact rd_b h hp c1 nums
  by_cases c2 : a p = 104
  · exact rd_h h hp c2 nums
  by_cases c3 : a p = 108
  · exact rd_l h hp c3 nums
  by_cases c4 : a p = 110
  · exact rd_n h hp c4 nums
  by_cases c5 : a p = 114
  · exact rd_r h hp c5 nums
  obtain ⟨e, l⟩ := LT_let h hp
  have f : fm (a p) = 5 := by unfold fm; rw [if_neg c1, if_neg c2, if_neg c3, if_neg c4, if_neg c5]
  have mm : MM N a p = 0 := by unfold MM; rw [f]; rfl
  refine rd_no (m := 0) (nums' := nums) mm (Or.inr (by rw [f]; rfl)) ?_
  unfold f_X6_readsStatement
  rw [m_here h (by omega), bn_some, e, fm_ite l, if_neg c1, if_neg c2, if_neg c3, if_neg c4, if_neg c5, nI_1, show nI (p + 1) - (1 : Int32) = nI p from pk_sub (a := p + 1) (b := 1) (by omega)]
  rfl
theorem m_read_end {a : Nat → Nat} {ml : Nat → Int32} (h : LT 0 a ml) (nums : Nat → Int32) : f_X6_readsStatement (nI 0) (nI 0) ml nums = some ((0 : Int32), nI 0, nums) := by
  unfold f_X6_readsStatement
  rw [m_here h (by omega), bn_some]
  rfl
