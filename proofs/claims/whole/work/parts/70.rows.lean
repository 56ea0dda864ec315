section FA
variable {p : Program} {l : Launch} {e : Env} {R : Room} {s : State} {m : MethodId} {args : Array Value} {below : List Frame} {meth : Method} {c : Code} {Q : State → Prop} {cells slots : Nat}
variable {cc : ByteArray} {nL : Nat} {Ts : List Cond} {own : String} {D : va_G} {cI : ClassId} {adK adV : Nat → Nat} {A : Nat → Prop}
variable {pc : Nat} {lv : List (Nat × Value)} {st : List Value} {ws : va_W}
theorem cI_of {args : Array Value} {s : State} (h : (Cond.arrayClass .int).before args s = true) : ∃ cI : ClassId, ArrOfT s cI .int ∧ va_RA s cI .int := by
  obtain ⟨cA, kA, comp, hfind, hk, hkind⟩ := Cond.arrayClass_spec h
  exact ⟨cA, fun n z => ⟨fun k h => (by cases h), kA, hk, comp, hkind⟩, hfind⟩
theorem s_newa (C : Cx p s m args c cc nL Ts own D cI adK adV A) {n : Int32} (N1 pc1 : Nat) (harr : Cond.arrayClass .int ∈ Ts) (hn : ¬ n < 0) (hN : n.toNatClampNeg = N1) (hby : N1 * componentBytes .int ≤ 536870912) (hfit : cells + 1 ≤ R.cells ∧ slots + N1 ≤ R.slots) (hpc : pc + 2 = pc1) (hdg : decode cc pc = .ok (.newarray .int, 2)) (kk : ∀ q : Nat, WW p l e R s m args below meth c Q nL D A (cells + 1) (slots + N1) pc1 lv (.ref q :: st) (ws ++ [(q, .inl (cI, N1, .inl (fun _ => 0)))])) : WW p l e R s m args below meth c Q nL D A cells slots pc lv (.int n :: st) ws := by
  subst hpc
  intro H locs ls hl hP hD hS
  refine va_newa (atype := .int) (ty := .int) (a0 := (N1, .inl (fun _ => 0))) C.1 C.2.1 (C.2.2.2.2.1 _ harr) rfl C.2.2.2.2.2.1 hP hD hS C.2.2.2.2.2.2.2 (fun _ => rfl) hn hN hby hfit.1 hfit.2 hdg (fun q cA H1 hK1 hP1 hD1 hS1 => ?_)
  have e1 : s.vm.findClass ("[" ++ (FieldType.int).toString) = some cI := (C.2.2.2.2.2.1.2 0 (cI, .int) rfl).2
  have e2 : s.vm.findClass ("[" ++ (FieldType.int).toString) = some cA := (hK1.2 1 (cA, .int) rfl).2
  obtain rfl : cI = cA := Option.some.inj (e1.symm.trans e2)
  exact kk q H1 locs ls hl hP1 hD1 hS1
theorem s_new (C : Cx p s m args c cc nL Ts own D cI adK adV A) {C1 : String} {T : u_T} {N ci index : Nat} {fs : List Value} (pc1 : Nat) (hin : ∀ w ∈ u_ws C1 T N, w ∈ Ts) (ty : Nat → FieldType) (hty : ∀ k, k < N → parseFieldDescriptor (T k).2.2.1 = some (ty k)) (hcl : Cond.classLink own index C1 ∈ Ts) (hinst : Cond.instantiable C1 N ∈ Ts) (hini : Cond.initialized C1 ∈ Ts) (hc : vwCl[ci]? = some (C1, T, N)) (hfs : ∀ j, j < N → defaultValue (ty j) = vp_V fs j) (hfit : cells + 1 ≤ R.cells ∧ slots + N ≤ R.slots) (hpc : pc + 3 = pc1) (hdg : decode cc pc = .ok (.new index, 3)) (kk : ∀ q : Nat, WW p l e R s m args below meth c Q nL D A (cells + 1) (slots + N) pc1 lv (.ref q :: st) (ws ++ [(q, .inr (ci, fs))])) : WW p l e R s m args below meth c Q nL D A cells slots pc lv st ws := by
  subst hpc
  intro H locs ls hl hP hD hS
  exact va_new C.1 C.2.1 C.2.2.2.2.1 hin ty hty C.2.2.2.1 (C.2.2.2.2.1 _ hcl) (C.2.2.2.2.1 _ hinst) (C.2.2.2.2.1 _ hini) C.2.2.2.2.2.1 hP hD hS C.2.2.2.2.2.2.2 hc hfs hfit.1 hfit.2 hdg (fun q H1 hP1 hD1 hS1 => kk q H1 locs ls hl hP1 hD1 hS1)
theorem s_obj (C : Cx p s m args c cc nL Ts own D cI adK adV A) {index a : Nat} (pc1 : Nat) (hlink : Cond.methodLink own index Lib.objectInit ∈ Ts) (hinst : Cond.instanceMethod Lib.objectInit ∈ Ts) (hcode : Cond.code Lib.objectInit ⟨#[0xb1]⟩ 1 none ∈ Ts) (hR : 1 ≤ R.frames ∧ 20 ≤ R.locals) (hst : (st.map fun v => v.category).sum ≤ 8) (hpc : pc + 3 = pc1) (hdg : decode cc pc = .ok (.invokespecial index, 3)) (kk : WW p l e R s m args below meth c Q nL D A cells slots pc1 lv st ws) : WW p l e R s m args below meth c Q nL D A cells slots pc lv (.ref a :: st) ws := by
  subst hpc
  intro H locs ls hl hP hD hS
  refine W.objInit C.1 C.2.1 C.2.2.2.1 (C.2.2.2.2.1 _ hlink) (C.2.2.2.2.1 _ hinst) (C.2.2.2.2.1 _ hcode) rfl (by rw [C.2.2.1]; exact hl.1) rfl hdg hR.1 (by have h := lv_room (m := m) (pc := pc) (ls := ls) (rest := .ref a :: st) hst; have h2 := hR.2; omega) ?_
  exact kk H locs ls hl hP hD hS
theorem s_sld (C : Cx p s m args c cc nL Ts own D cI adK adV A) {b L : Nat} {xs : Nat → Int32} (hX : va_X b L xs s s.heap) (hbl : b < s.heap.size) (hbA : ¬ A b) {i : Int32} (pc1 : Nat) (hin : vp_in i L) (hpc : pc + 1 = pc1) (hdg : decode cc pc = .ok (.iaload, 1)) (kk : WW p l e R s m args below meth c Q nL D A cells slots pc1 lv (.int (xs i.toNatClampNeg) :: st) ws) : WW p l e R s m args below meth c Q nL D A cells slots pc lv (.int i :: .ref b :: st) ws := by
  subst hpc
  exact fun H locs ls hl hP hD hS => va_sld C.1 C.2.1 hX hbl hbA hS hin hdg (kk H locs ls hl hP hD hS)
theorem s_slen (C : Cx p s m args c cc nL Ts own D cI adK adV A) {b L : Nat} {xs : Nat → Int32} (hX : va_X b L xs s s.heap) (hbl : b < s.heap.size) (hbA : ¬ A b) (pc1 : Nat) (hpc : pc + 1 = pc1) (hdg : decode cc pc = .ok (.arraylength, 1)) (kk : WW p l e R s m args below meth c Q nL D A cells slots pc1 lv (.int (nI L) :: st) ws) : WW p l e R s m args below meth c Q nL D A cells slots pc lv (.ref b :: st) ws := by
  subst hpc
  exact fun H locs ls hl hP hD hS => va_slen C.1 C.2.1 hX hbl hbA hS hdg (kk H locs ls hl hP hD hS)
end FA
