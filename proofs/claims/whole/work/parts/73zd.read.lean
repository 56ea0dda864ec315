/-! core: the reference reads a statement -/
def Dg (N : Nat) (a : Nat → Nat) (k : Nat) : Bool := decide (k < N) && dig (a k)
def Sc (N : Nat) (a : Nat → Nat) (k : Nat) : Bool := decide (k < N) && decide (a k = 59)
def Kk (N : Nat) (a : Nat → Nat) (k : Nat) : Bool := decide (k < N) && decide (kd (a k) < 6)
theorem ltr_dig {N : Nat} {a : Nat → Nat} {ml : Nat → Int32} (h : LT N a ml) (k : Nat) : f_X6_isIn (ltr N a k) (48 : Int32) (57 : Int32) = some (nI (if Dg N a k then 1 else 0)) := by
  unfold Dg
  by_cases q : k < N
  · obtain ⟨e, l⟩ := LT_let h q
    rw [e, decide_eq_true q, Bool.true_and]
    unfold f_X6_isIn dig
    rw [ite_p (show (nI (a k) < (48 : Int32)) ↔ a k < 48 from nI_ltI (b := 48) (by omega) (by decide)), ite_p (show ((57 : Int32) < nI (a k)) ↔ 57 < a k from nI_ltI (a := 57) (by decide) (by omega))]
    by_cases x1 : a k < 48
    · rw [if_pos x1, decide_eq_false (by omega)]; rfl
    · rw [if_neg x1, decide_eq_true (by omega)]
      by_cases x2 : 57 < a k
      · rw [if_pos x2, decide_eq_false (by omega)]; rfl
      · rw [if_neg x2, decide_eq_true (by omega)]; rfl
  · unfold ltr
    rw [if_neg q, decide_eq_false q, Bool.false_and]
    decide
theorem ltr_59 {N : Nat} {a : Nat → Nat} {ml : Nat → Int32} (h : LT N a ml) (k : Nat) : ltr N a k = (59 : Int32) ↔ Sc N a k = true := by
  unfold Sc
  by_cases q : k < N
  · obtain ⟨e, l⟩ := LT_let h q
    rw [e, decide_eq_true q, Bool.true_and, decide_eq_true_eq]
    exact nI_eq (b := 59) (by omega) (by decide)
  · unfold ltr
    rw [if_neg q, decide_eq_false q, Bool.false_and]
    decide
def wr (nums : Nat → Int32) (s : Nat) (v : Int32) : Nat → Int32 := upd nums s v
theorem m_num1 {N : Nat} {a : Nat → Nat} {ml : Nat → Int32} (h : LT N a ml) {k : Nat} (hk : k < 190) {s : Nat} (hs : s < 2) (nums : Nat → Int32) : ∃ nums', f_X6_readsNumber (nI N) (nI k) ml nums (nI s) (1 : Int32) = some (nI (if Dg N a k then 1 else 0), nI (if Dg N a k then k + 1 else k), nums') ∧ (∀ i, i ≠ s → nums' i = nums i) ∧ (Dg N a k = true → nums' s = nI (a k - 48)) := by
  unfold f_X6_readsNumber
  rw [inb_nI hs (by decide), ck_true, nI_clamp (by omega), show (1000 : Nat) = 999 + 1 from rfl, f_X6_readsNumber_9_s, if_neg (show ¬ (1 : Int32) ≤ 0 by decide), m_here h (by omega), bn_some, ltr_dig h, bn_some]
  cases d : Dg N a k with
  | false =>
    rw [if_pos (show nI (if false = true then 1 else 0) = 0 from rfl)]
    exact ⟨_, rfl, fun i hi => by unfold upd; rw [if_neg hi], fun q => by cases q⟩
  | true =>
    have q : k < N := of_decide_eq_true ((Bool.and_eq_true _ _).mp d).1
    have dd2 : dig (a k) = true := ((Bool.and_eq_true _ _).mp d).2
    have g : 48 ≤ a k := of_decide_eq_true ((Bool.and_eq_true _ _).mp dd2).1
    obtain ⟨e, l⟩ := LT_let h q
    rw [if_neg (show ¬ nI (if true = true then 1 else 0) = 0 by decide), inb_nI hs (by decide), ck_true, bn_some, ck_true, nI_clamp (by omega), nI_1, show (0 : Int32) + 1 = 1 by decide, e, show (999 : Nat) = 998 + 1 from rfl, f_X6_readsNumber_9_s, if_pos (Int32.le_refl _)]
    refine ⟨_, rfl, fun i hi => by unfold upd; rw [if_neg hi, if_neg hi], fun _ => ?_⟩
    unfold upd
    rw [if_pos rfl, if_pos rfl, show ((10 : Int32) * 0 + nI (a k)) = nI (a k) by rw [show (10 : Int32) * 0 = nI 0 by decide, nI_add, Nat.zero_add]]
    exact pk_sub (b := 48) g
theorem m_num2 {N : Nat} {a : Nat → Nat} {ml : Nat → Int32} (h : LT N a ml) {k : Nat} (hk : k < 190) {s : Nat} (hs : s < 2) (nums : Nat → Int32) : ∃ nums', f_X6_readsNumber (nI N) (nI k) ml nums (nI s) (2 : Int32) = some (nI (if Dg N a k && Dg N a (k + 1) then 1 else 0), nI (if Dg N a k then (if Dg N a (k + 1) then k + 2 else k + 1) else k), nums') ∧ (∀ i, i ≠ s → nums' i = nums i) ∧ (Dg N a k = true → Dg N a (k + 1) = true → nums' s = nI (10 * (a k - 48) + (a (k + 1) - 48))) := by
  unfold f_X6_readsNumber
  rw [inb_nI hs (by decide), ck_true, nI_clamp (by omega), show (1000 : Nat) = 999 + 1 from rfl, f_X6_readsNumber_9_s, if_neg (show ¬ (2 : Int32) ≤ 0 by decide), m_here h (by omega), bn_some, ltr_dig h, bn_some]
  cases d : Dg N a k with
  | false =>
    rw [if_pos (show nI (if false = true then 1 else 0) = 0 from rfl)]
    exact ⟨_, rfl, fun i hi => by unfold upd; rw [if_neg hi], fun q => by cases q⟩
  | true =>
    have q : k < N := of_decide_eq_true ((Bool.and_eq_true _ _).mp d).1
    have dd2 : dig (a k) = true := ((Bool.and_eq_true _ _).mp d).2
    have g : 48 ≤ a k := of_decide_eq_true ((Bool.and_eq_true _ _).mp dd2).1
    obtain ⟨e, l⟩ := LT_let h q
    rw [if_neg (show ¬ nI (if true = true then 1 else 0) = 0 by decide), inb_nI hs (by decide), ck_true, bn_some, ck_true, nI_clamp (by omega), nI_1, show (0 : Int32) + 1 = 1 by decide, e, show (999 : Nat) = 998 + 1 from rfl, f_X6_readsNumber_9_s, if_neg (show ¬ (2 : Int32) ≤ 1 by decide), m_here h (by omega), bn_some, ltr_dig h, bn_some]
    cases d' : Dg N a (k + 1) with
    | false =>
      rw [if_pos (show nI (if false = true then 1 else 0) = 0 from rfl)]
      exact ⟨_, rfl, fun i hi => by unfold upd; rw [if_neg hi, if_neg hi], fun _ q => by cases q⟩
    | true =>
      have q' : k + 1 < N := of_decide_eq_true ((Bool.and_eq_true _ _).mp d').1
      have dd2' : dig (a (k + 1)) = true := ((Bool.and_eq_true _ _).mp d').2
      have g' : 48 ≤ a (k + 1) := of_decide_eq_true ((Bool.and_eq_true _ _).mp dd2').1
      obtain ⟨e', l'⟩ := LT_let h q'
      rw [if_neg (show ¬ nI (if true = true then 1 else 0) = 0 by decide), inb_nI hs (by decide), ck_true, bn_some, ck_true, nI_clamp (by omega), nI_1, show (1 : Int32) + 1 = 2 by decide, e', show (998 : Nat) = 997 + 1 from rfl, f_X6_readsNumber_9_s, if_pos (Int32.le_refl _)]
      refine ⟨_, rfl, fun i hi => by unfold upd; rw [if_neg hi, if_neg hi, if_neg hi], fun _ _ => ?_⟩
      unfold upd
      rw [if_pos rfl, if_pos rfl, if_pos rfl, show ((10 : Int32) * 0 + nI (a k)) = nI (a k) by rw [show (10 : Int32) * 0 = nI 0 by decide, nI_add, Nat.zero_add], show (48 : Int32) = nI 48 from rfl, pk_sub g, show (10 : Int32) = nI 10 from rfl, pk_mul, nI_add, pk_sub (by omega), show 10 * (a k - 48) + a (k + 1) - 48 = 10 * (a k - 48) + (a (k + 1) - 48) by omega]
theorem m_kind0 : ∀ x, x < 256 → f_X6_kindBy (nI x) = some (if kd x < 6 then nI (kd x) else (-9 : Int32)) := by decide +kernel
theorem m_kind {N : Nat} {a : Nat → Nat} {ml : Nat → Int32} (h : LT N a ml) {k : Nat} (hk : k < 190) (nums : Nat → Int32) : ∃ nums', f_X6_readsKind (nI N) (nI k) ml nums = some (nI (if Kk N a k then 1 else 0), nI (if Kk N a k then k + 1 else k), nums') ∧ (Kk N a k = true → nums' 0 = nI (kd (a k))) := by
  unfold f_X6_readsKind
  have z : (0 : Int32).toNatClampNeg = 0 := by decide
  have iz : inb (0 : Int32) 2 = true := by decide
  have e : bn (f_X6_here (nI N) (nI k) ml) (fun (r1 : Int32) => f_X6_kindBy r1) = some (if Kk N a k then nI (kd (a k)) else (-9 : Int32)) := by
    rw [m_here h (by omega), bn_some]
    unfold Kk
    by_cases q : k < N
    · obtain ⟨e, l⟩ := LT_let h q
      rw [e, m_kind0 _ l, decide_eq_true q, Bool.true_and]
      by_cases w : kd (a k) < 6
      · rw [if_pos w, decide_eq_true w, if_pos rfl]
      · rw [if_neg w, decide_eq_false w, if_neg (by decide)]
    · unfold ltr
      rw [if_neg q, decide_eq_false q]
      rfl
  rw [m_here h (by omega), bn_some] at e
  rw [m_here h (by omega), bn_some, e, bn_some, iz, ck_true, ck_true, jn_eq, ck_true, z]
  have u0 : ∀ v : Int32, upd nums 0 v 0 = v := fun v => by unfold upd; rw [if_pos rfl]
  rw [u0]
  cases w : Kk N a k with
  | false =>
    rw [if_neg (show ¬ false = true by decide), if_neg (show ¬ 0 ≤ (-9 : Int32) by decide), if_pos (show (-9 : Int32) < 0 by decide), show nI k + (0 : Int32) = nI k from nI_add k 0]
    exact ⟨_, rfl, fun q => by cases q⟩
  | true =>
    have l6 : kd (a k) < 6 := of_decide_eq_true ((Bool.and_eq_true _ _).mp w).2
    rw [if_pos (show true = true from rfl), if_pos (nI_ge0 (by omega)), if_neg (not_lt0 (by omega)), nI_1]
    exact ⟨_, rfl, fun _ => u0 _⟩
/-! a statement's letters, form by form -/
theorem sb1 {b : Bool} {α : Type} (x y : α) (h : b = true) : (if b = true then x else y) = x := if_pos h
theorem MM_b {N : Nat} {a : Nat → Nat} {p : Nat} (hp : p < N) (h : a p = 98) : fm (a p) = 1 ∧ MM N a p = if Dg N a (p + 1) then (if Dg N a (p + 2) then (if Dg N a (p + 3) then (if Sc N a (p + 4) then 5 else 4) else 3) else 2) else 1 := by
  have f : fm (a p) = 1 := by rw [h]; rfl
  refine ⟨f, ?_⟩
  unfold MM
  rw [f]
  show (if (decide (p < N) && suD 98 (a p)) = true then _ else _) = _
  rw [if_pos (by rw [h, decide_eq_true hp]; rfl)]
  rfl
theorem MM_h {N : Nat} {a : Nat → Nat} {p : Nat} (hp : p < N) (h : a p = 104) : fm (a p) = 0 ∧ MM N a p = if Kk N a (p + 1) then (if Dg N a (p + 2) then (if Sc N a (p + 3) then 4 else 3) else 2) else 1 := by
  have f : fm (a p) = 0 := by rw [h]; rfl
  refine ⟨f, ?_⟩
  unfold MM
  rw [f]
  show (if (decide (p < N) && suD 104 (a p)) = true then _ else _) = _
  rw [if_pos (by rw [h, decide_eq_true hp]; rfl)]
  rfl
theorem MM_l {N : Nat} {a : Nat → Nat} {p : Nat} (hp : p < N) (h : a p = 108) : fm (a p) = 2 ∧ MM N a p = if Dg N a (p + 1) then (if Dg N a (p + 2) then (if Sc N a (p + 3) then 4 else 3) else 2) else 1 := by
  have f : fm (a p) = 2 := by rw [h]; rfl
  refine ⟨f, ?_⟩
  unfold MM
  rw [f]
  show (if (decide (p < N) && suD 108 (a p)) = true then _ else _) = _
  rw [if_pos (by rw [h, decide_eq_true hp]; rfl)]
  rfl
theorem MM_r {N : Nat} {a : Nat → Nat} {p : Nat} (hp : p < N) (h : a p = 114) : fm (a p) = 3 ∧ MM N a p = if Dg N a (p + 1) then (if Sc N a (p + 2) then 3 else 2) else 1 := by
  have f : fm (a p) = 3 := by rw [h]; rfl
  refine ⟨f, ?_⟩
  unfold MM
  rw [f]
  show (if (decide (p < N) && suD 114 (a p)) = true then _ else _) = _
  rw [if_pos (by rw [h, decide_eq_true hp]; rfl)]
  rfl
theorem MM_n {N : Nat} {a : Nat → Nat} {p : Nat} (hp : p < N) (h : a p = 110) : fm (a p) = 4 ∧ MM N a p = if Sc N a (p + 1) then 2 else 1 := by
  have f : fm (a p) = 4 := by rw [h]; rfl
  refine ⟨f, ?_⟩
  unfold MM
  rw [f]
  show (if (decide (p < N) && suD 110 (a p)) = true then _ else _) = _
  rw [if_pos (by rw [h, decide_eq_true hp]; rfl)]
  rfl
