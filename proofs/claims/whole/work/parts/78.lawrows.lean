section FL
variable {p : Program} {l : Launch} {e : Env} {R : Room} {s : State} {m : MethodId} {args : Array Value} {below : List Frame} {meth : Method} {c : Code} {Q : State → Prop} {cells slots : Nat}
variable {cc : ByteArray} {nL : Nat} {Ts : List Cond} {own : String} {D : va_G} {cI : ClassId} {adK adV : Nat → Nat} {A : Nat → Prop}
variable {pc : Nat} {lv : List (Nat × Value)} {st : List Value} {wa wb : va_W}
theorem va_Pl {cl : List vw_C} {H : Heap} (h : va_P D cl (wa ++ wb) H) : va_P D cl wa H := fun k q hq => h k q (by rw [List.getElem?_append_left (List.getElem?_eq_some_iff.mp hq).1]; exact hq)
theorem va_Pr {cl : List vw_C} {H : Heap} (h : va_P D cl (wa ++ wb) H) : va_P D cl wb H := fun k q hq => h (wa.length + k) q (by rw [List.getElem?_append_right (by omega), Nat.add_sub_cancel_left]; exact hq)
theorem va_Dl (h : va_D A (wa ++ wb)) : va_D A wa := ⟨fun i j p q hi hj e => h.1 i j p q (by rw [List.getElem?_append_left (List.getElem?_eq_some_iff.mp hi).1]; exact hi) (by rw [List.getElem?_append_left (List.getElem?_eq_some_iff.mp hj).1]; exact hj) e, fun k q hq => h.2 k q (by rw [List.getElem?_append_left (List.getElem?_eq_some_iff.mp hq).1]; exact hq)⟩
theorem va_Dr (h : va_D A (wa ++ wb)) : va_D A wb := ⟨fun i j p q hi hj e => by
  have := h.1 (wa.length + i) (wa.length + j) p q (by rw [List.getElem?_append_right (by omega), Nat.add_sub_cancel_left]; exact hi) (by rw [List.getElem?_append_right (by omega), Nat.add_sub_cancel_left]; exact hj) e
  omega, fun k q hq => h.2 (wa.length + k) q (by rw [List.getElem?_append_right (by omega), Nat.add_sub_cancel_left]; exact hq)⟩
theorem va_Dx (h : va_D A (wa ++ wb)) {i j : Nat} {p q : Nat × va_E} (hi : wa[i]? = some p) (hj : wb[j]? = some q) : p.1 ≠ q.1 := fun e => by
  have hl := (List.getElem?_eq_some_iff.mp hi).1
  have := h.1 i (wa.length + j) p q (by rw [List.getElem?_append_left hl]; exact hi) (by rw [List.getElem?_append_right (by omega), Nat.add_sub_cancel_left]; exact hj) e
  omega

theorem s_backL (C : Cx p s m args c cc nL Ts own D cI adK adV A) {w1 : (Nat → Nat) → va_W} {rv : Option Value} {mc ms : Nat} {st0 rest : List Value} {a : Array Value} {pc1 : Nat} (hpc : pc + 3 = pc1)
    (hr : ∀ (H : Heap) (locs : List Loc) (ls : Array Slot), lv_has ls nL lv → va_P D vwCl (wa ++ wb) H → va_D A (wa ++ wb) → va_S A s.heap H locs → va_Run p l e R s m args below meth c H locs cells slots mc ms (F0 m pc ls st0) rest (Qq D cI (va_A wa H.size) w1 rv a) (va_A wa H.size))
    (kk : ∀ k : Nat → Nat, WW p l e R s m args below meth c Q nL D A (cells + mc) (slots + ms) pc1 lv (rv.toList ++ rest) (w1 k ++ wb)) : WW p l e R s m args below meth c Q nL D A cells slots pc lv st0 (wa ++ wb) := by
  subst hpc
  intro H locs ls hl hP hD hS T hT X
  have hF : ∀ q, va_A wa H.size q → A q := fun q h => by
    rcases h with ⟨k, e, h⟩ | h
    · exact (va_Dl hD).2 k _ h
    · exact C.2.2.2.2.2.2.2 q (Nat.le_trans hS.1 h)
  obtain ⟨v, st₀, t, T', L, h0, X', hL, e1, e2, ⟨⟨hv, k, hP1, -, hD1⟩, hz, hk⟩, stp⟩ := hr H locs ls hl hP hD hS T hT X
  cases hv
  rw [h0] at hz hk
  rw [← e1] at hP1
  have hk1 : ∀ q : Nat, q < H.size → ¬ va_A wa H.size q → T'.heap[q]? = H[q]? := fun q h1 h2 => by rw [e1]; exact hk q h1 h2
  have hS1 : va_S A s.heap T'.heap (locs ++ L) := ⟨Nat.le_trans hS.1 (by rw [e1]; exact hz), fun q h1 h2 => by rw [hk1 q (Nat.lt_of_lt_of_le h1 hS.1) (fun z => h2 (hF q z))]; exact hS.2.1 q h1 h2, fun q hq => by
      rcases List.mem_append.mp hq with h | h
      · exact hS.2.2 q h
      · exact hF _ (hL q h)⟩
  have apart : ∀ (j : Nat) (q : Nat × va_E), wb[j]? = some q → q.1 < H.size ∧ ¬ va_A wa H.size q.1 := fun j q hq => by
    have hlt := (va_Pr hP j q hq).lt
    refine ⟨hlt, fun h => ?_⟩
    rcases h with ⟨i, e, h⟩ | h
    · exact va_Dx hD h hq rfl
    · omega
  have hP2 : va_P D vwCl (w1 k ++ wb) T'.heap := va_P.app hP1 (fun j q hq => (va_Pr hP j q hq).kept (hk1 q.1 (apart j q hq).1 (apart j q hq).2))
  have hD2 : va_D A (w1 k ++ wb) := va_D.app (hD1.weaken (fun _ q _ h => hF _ h)) (va_Dr hD) (fun i j x y hx hy hxy => (apart j y hy).2 (by rw [← hxy]; exact hD1.2 i x hx))
  obtain ⟨t2, a1, b1⟩ := kk k T'.heap (locs ++ L) ls hl hP2 hD2 hS1 T' rfl X'
  exact ⟨t2, stp t2 a1, b1⟩
theorem s_preL (C : Cx p s m args c cc nL Ts own D cI adK adV A) {H : Heap} {locs : List Loc} (hP : va_P D vwCl (wa ++ wb) H) (hD : va_D A (wa ++ wb)) (hS : va_S A s.heap H locs) (U : State) (hU : U.heap = H) (hW : s.WarmedH U.vm) : Pq D cI adK adV wa H.size U := by
  have hF : ∀ q, va_A wa H.size q → A q := fun q h => by
    rcases h with ⟨k, e, h⟩ | h
    · exact (va_Dl hD).2 k _ h
    · exact C.2.2.2.2.2.2.2 q (Nat.le_trans hS.1 h)
  refine ⟨by rw [hU], by rw [hU]; exact va_Pl hP, va_K.moved hW.alike C.2.2.2.2.2.1, (va_Dl hD).weaken (fun _ _ _ _ => trivial), ?_⟩
  rw [hU]
  exact ((C.2.2.2.2.2.2.1.kept hS.2.1).narrow hF).moved hW
theorem s_callL (C : Cx p s m args c cc nL Ts own D cI adK adV A) {y : MethodName} {C1 : String} {bytes : ByteArray} {maxL mc ms index ci q0 : Nat} {ret : Option FieldType} {wsy ws' : List Cond} {rm : Room} {As rest st0 : List Value} {b : Nat} {T : u_T} {N : Nat} {fs : List Value} {w1 : (Nat → Nat) → va_W} {rv : Option Value} (pc1 : Nat) (hM : Ct l D cI adK adV y wsy rm mc ms (.ref b :: As) wa w1 rv) (hG : GoodIn Ts (wsV own index C1 y wsy)) (hd : y.cls = C1 ∧ y.cls ≠ "java/lang/invoke/MethodHandle" ∧ y.cls ≠ "java/lang/invoke/VarHandle" ∧ (parseMethodDescriptor y.desc).map (fun d => d.parameters.length) = some As.length) (hw : wsy = Cond.code y bytes maxL ret :: ws') (hrm : rm.cells = mc ∧ rm.slots = ms) (hR : rm.frames + 1 ≤ R.frames ∧ 8 + (maxL + 11) + rm.locals ≤ R.locals) (hfit : cells + mc ≤ R.cells ∧ slots + ms ≤ R.slots)
    (hci : vwCl[ci]? = some (C1, T, N)) (hq0 : wa[q0]? = some (b, .inr (ci, fs))) (hst : As.reverse ++ .ref b :: rest = st0) (hrest : (rest.map fun v => v.category).sum ≤ 8) (hpc : pc + 3 = pc1) (hdg : decode cc pc = .ok (.invokevirtual index, 3))
    (kk : ∀ k : Nat → Nat, WW p l e R s m args below meth c Q nL D A (cells + mc) (slots + ms) pc1 lv (rv.toList ++ rest) (w1 k ++ wb)) : WW p l e R s m args below meth c Q nL D A cells slots pc lv st0 (wa ++ wb) := by
  subst hst
  refine s_backL (a := (Value.ref b :: As).toArray) C hpc (fun H locs ls hl hP hD hS => ?_) kk
  exact va_runV (C := C1) ⟨C.1, C.2.1, C.2.2.1, C.2.2.2.1, C.2.2.2.2.1⟩ (hM H.size) (cwV As.length C.2.2.2.2.1 hG hw hrm.1 hrm.2 hd hR) ⟨Pq.blind, va_recv C.2.2.2.2.2.1 (va_Pl hP) hci hq0, fun U hU hW => ⟨rfl, s_preL C hP hD hS U hU hW⟩⟩ rfl rfl hl.1 rfl (lv_room hrest) hdg hfit
theorem s_backR (C : Cx p s m args c cc nL Ts own D cI adK adV A) {w1 : (Nat → Nat) → va_W} {rv : Option Value} {mc ms : Nat} {st0 rest : List Value} {a : Array Value} {pc1 : Nat} (hpc : pc + 3 = pc1)
    (hr : ∀ (H : Heap) (locs : List Loc) (ls : Array Slot), lv_has ls nL lv → va_P D vwCl (wa ++ wb) H → va_D A (wa ++ wb) → va_S A s.heap H locs → va_Run p l e R s m args below meth c H locs cells slots mc ms (F0 m pc ls st0) rest (Qq D cI (va_A wb H.size) w1 rv a) (va_A wb H.size))
    (kk : ∀ k : Nat → Nat, WW p l e R s m args below meth c Q nL D A (cells + mc) (slots + ms) pc1 lv (rv.toList ++ rest) (wa ++ w1 k)) : WW p l e R s m args below meth c Q nL D A cells slots pc lv st0 (wa ++ wb) := by
  subst hpc
  intro H locs ls hl hP hD hS T hT X
  have hF : ∀ q, va_A wb H.size q → A q := fun q h => by
    rcases h with ⟨k, e, h⟩ | h
    · exact (va_Dr hD).2 k _ h
    · exact C.2.2.2.2.2.2.2 q (Nat.le_trans hS.1 h)
  obtain ⟨v, st₀, t, T', L, h0, X', hL, e1, e2, ⟨⟨hv, k, hP1, -, hD1⟩, hz, hk⟩, stp⟩ := hr H locs ls hl hP hD hS T hT X
  cases hv
  rw [h0] at hz hk
  rw [← e1] at hP1
  have hk1 : ∀ q : Nat, q < H.size → ¬ va_A wb H.size q → T'.heap[q]? = H[q]? := fun q h1 h2 => by rw [e1]; exact hk q h1 h2
  have hS1 : va_S A s.heap T'.heap (locs ++ L) := ⟨Nat.le_trans hS.1 (by rw [e1]; exact hz), fun q h1 h2 => by rw [hk1 q (Nat.lt_of_lt_of_le h1 hS.1) (fun z => h2 (hF q z))]; exact hS.2.1 q h1 h2, fun q hq => by
      rcases List.mem_append.mp hq with h | h
      · exact hS.2.2 q h
      · exact hF _ (hL q h)⟩
  have apart : ∀ (j : Nat) (q : Nat × va_E), wa[j]? = some q → q.1 < H.size ∧ ¬ va_A wb H.size q.1 := fun j q hq => by
    have hlt := (va_Pl hP j q hq).lt
    refine ⟨hlt, fun h => ?_⟩
    rcases h with ⟨i, e, h⟩ | h
    · exact va_Dx hD hq h rfl
    · omega
  have hP2 : va_P D vwCl (wa ++ w1 k) T'.heap := va_P.app (fun j q hq => (va_Pl hP j q hq).kept (hk1 q.1 (apart j q hq).1 (apart j q hq).2)) hP1
  have hD2 : va_D A (wa ++ w1 k) := va_D.app (va_Dl hD) (hD1.weaken (fun _ q _ h => hF _ h)) (fun i j x y hx hy hxy => (apart i x hx).2 (by rw [hxy]; exact hD1.2 j y hy))
  obtain ⟨t2, a1, b1⟩ := kk k T'.heap (locs ++ L) ls hl hP2 hD2 hS1 T' rfl X'
  exact ⟨t2, stp t2 a1, b1⟩
theorem s_preR (C : Cx p s m args c cc nL Ts own D cI adK adV A) {H : Heap} {locs : List Loc} (hP : va_P D vwCl (wa ++ wb) H) (hD : va_D A (wa ++ wb)) (hS : va_S A s.heap H locs) (U : State) (hU : U.heap = H) (hW : s.WarmedH U.vm) : Pq D cI adK adV wb H.size U := by
  have hF : ∀ q, va_A wb H.size q → A q := fun q h => by
    rcases h with ⟨k, e, h⟩ | h
    · exact (va_Dr hD).2 k _ h
    · exact C.2.2.2.2.2.2.2 q (Nat.le_trans hS.1 h)
  refine ⟨by rw [hU], by rw [hU]; exact va_Pr hP, va_K.moved hW.alike C.2.2.2.2.2.1, (va_Dr hD).weaken (fun _ _ _ _ => trivial), ?_⟩
  rw [hU]
  exact ((C.2.2.2.2.2.2.1.kept hS.2.1).narrow hF).moved hW
theorem s_callR (C : Cx p s m args c cc nL Ts own D cI adK adV A) {y : MethodName} {C1 : String} {bytes : ByteArray} {maxL mc ms index ci q0 : Nat} {ret : Option FieldType} {wsy ws' : List Cond} {rm : Room} {As rest st0 : List Value} {b : Nat} {T : u_T} {N : Nat} {fs : List Value} {w1 : (Nat → Nat) → va_W} {rv : Option Value} (pc1 : Nat) (hM : Ct l D cI adK adV y wsy rm mc ms (.ref b :: As) wb w1 rv) (hG : GoodIn Ts (wsV own index C1 y wsy)) (hd : y.cls = C1 ∧ y.cls ≠ "java/lang/invoke/MethodHandle" ∧ y.cls ≠ "java/lang/invoke/VarHandle" ∧ (parseMethodDescriptor y.desc).map (fun d => d.parameters.length) = some As.length) (hw : wsy = Cond.code y bytes maxL ret :: ws') (hrm : rm.cells = mc ∧ rm.slots = ms) (hR : rm.frames + 1 ≤ R.frames ∧ 8 + (maxL + 11) + rm.locals ≤ R.locals) (hfit : cells + mc ≤ R.cells ∧ slots + ms ≤ R.slots)
    (hci : vwCl[ci]? = some (C1, T, N)) (hq0 : wb[q0]? = some (b, .inr (ci, fs))) (hst : As.reverse ++ .ref b :: rest = st0) (hrest : (rest.map fun v => v.category).sum ≤ 8) (hpc : pc + 3 = pc1) (hdg : decode cc pc = .ok (.invokevirtual index, 3))
    (kk : ∀ k : Nat → Nat, WW p l e R s m args below meth c Q nL D A (cells + mc) (slots + ms) pc1 lv (rv.toList ++ rest) (wa ++ w1 k)) : WW p l e R s m args below meth c Q nL D A cells slots pc lv st0 (wa ++ wb) := by
  subst hst
  refine s_backR (a := (Value.ref b :: As).toArray) C hpc (fun H locs ls hl hP hD hS => ?_) kk
  exact va_runV (C := C1) ⟨C.1, C.2.1, C.2.2.1, C.2.2.2.1, C.2.2.2.2.1⟩ (hM H.size) (cwV As.length C.2.2.2.2.1 hG hw hrm.1 hrm.2 hd hR) ⟨Pq.blind, va_recv C.2.2.2.2.2.1 (va_Pr hP) hci hq0, fun U hU hW => ⟨rfl, s_preR C hP hD hS U hU hW⟩⟩ rfl rfl hl.1 rfl (lv_room hrest) hdg hfit
end FL
