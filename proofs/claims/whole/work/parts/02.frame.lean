/-! THE FRAME. WW: 'from every heap that holds the world ws, the method goes on from pc to its end'. Cx: what holds all through a method's body. Ct: a contract. -/
-- the String constants: 0 "hK9;" 1 "b999;" 2 "l99;" 3 "r9;" 4 "n;" 5 "" 6 "newlpk"
def nJS : Nat := 7
def lenJS : List Nat := [4, 5, 4, 3, 2, 0, 6]
def bytJS : List (List Int32) := [[104, 75, 57, 59], [98, 57, 57, 57, 59], [108, 57, 57, 59], [114, 57, 59], [110, 59], [], [110, 101, 119, 108, 112, 107]]
def txJS : List String := ["hK9;", "b999;", "l99;", "r9;", "n;", "", "newlpk"]
def ixJS : List Nat := [36, 38, 40, 42, 44, 46, 81]
def nests : List (String × Nat × MethodName × String) := [(RX2, 9, yX5_isCell, RX5), (RX0, 46, yX5_isCell, RX5)]
def Sx (adK adV : Nat → Nat) (A : Nat → Prop) (U : State) (H : Heap) : Prop := vk_S nJS lenJS bytJS adK adV A U H ∧ (∀ i, i < nJS → vk_R "CoresAreWills$Text" (ixJS.getD i 0) (txJS.getD i "") (adK i) U) ∧ (∀ q ∈ nests, va_Nw (.methodLinkNest q.1 q.2.1 q.2.2.1 q.2.2.2) U) ∧ va_Z "java/lang/String" "COMPACT_STRINGS" "Z" (.int 1) A U H ∧ va_Zq "jdk/internal/util/Preconditions" "SIOOBE_FORMATTER" "Ljava/util/function/BiFunction;" A U H
def Cx (p : Program) (s : State) (m : MethodId) (args : Array Value) (c : Code) (cc : ByteArray) (nL : Nat) (Ts : List Cond) (own : String) (D : va_G) (cI : ClassId) (adK adV : Nat → Nat) (A : Nat → Prop) : Prop :=
  p.tables.exec = Jvm.exec ∧ c.code = cc ∧ c.maxLocals = nL ∧ s.vm.findClass own = some m.cls ∧ (∀ w ∈ Ts, w.before args s = true) ∧ va_K D vwCl [(cI, .int)] s ∧ Sx adK adV A s s.heap ∧ (∀ q : Nat, s.heap.size ≤ q → A q)
def WW (p : Program) (l : Launch) (e : Env) (R : Room) (s : State) (m : MethodId) (args : Array Value) (below : List Frame) (meth : Method) (c : Code) (Q : State → Prop) (nL : Nat) (D : va_G) (A : Nat → Prop) (cells slots : Nat) (pc : Nat) (lv : List (Nat × Value)) (st : List Value) (ws : va_W) : Prop :=
  ∀ (H : Heap) (locs : List Loc) (ls : Array Slot), lv_has ls nL lv → va_P D vwCl ws H → va_D A ws → va_S A s.heap H locs → W p l e R s m args below meth c H locs cells slots Q (F0 m pc ls st)
-- checks and joins of the mirrored functions
def jn {α β : Type} (a : α) (k : α → β) : β := k a
def bn {α β : Type} (x : Option α) (k : α → Option β) : Option β := match x with | some a => k a | none => none
def ck {α : Type} (b : Bool) (k : Option α) : Option α := match b with | true => k | false => none
def inb (i : Int32) (n : Nat) : Bool := !(decide (i < 0) || decide (n ≤ i.toNatClampNeg))
def isc (v : Int32) : Bool := decide ((v.toUInt32 % 65536).toInt32 = v)
def isby (v : Int32) : Bool := decide (v.toInt8.toInt32 = v)
def ltJ (i : Nat) : Bool := decide (i < nJS)
def isb (v : Int32) : Bool := decide (v = 0) || decide (v = 1)
def nz (y : Int32) : Bool := !(decide (y = 0))
def nzl (y : Int64) : Bool := !(decide (y = 0))
def jrem (x y : Int32) : Int32 := x - x / y * y
def jreml (x y : Int64) : Int64 := x - x / y * y
def jshl (x y : Int32) : Int32 := x <<< (y &&& 31)
def jshr (x y : Int32) : Int32 := x >>> (y &&& 31)
def jushr (x y : Int32) : Int32 := (x.toUInt32 >>> (y.toUInt32 &&& Int32.toUInt32 31)).toInt32
def jmin (x y : Int32) : Int32 := if y < x then y else x
def jmax (x y : Int32) : Int32 := if x < y then y else x
def jabs (x : Int32) : Int32 := if 0 ≤ x then x else 0 - x
theorem ite_t {c : Prop} {i : Decidable c} {α : Type} {a b o : α} (hc : c) (h : @ite α c i a b = o) : a = o := by rw [if_pos hc] at h; exact h
theorem ite_f {c : Prop} {i : Decidable c} {α : Type} {a b o : α} (hc : ¬ c) (h : @ite α c i a b = o) : b = o := by rw [if_neg hc] at h; exact h
theorem jn_t {c : Prop} {i : Decidable c} {α β : Type} {a b : α} {k : α → β} {o : β} (hc : c) (h : jn (@ite α c i a b) k = o) : jn a k = o := by rw [if_pos hc] at h; exact h
theorem jn_f {c : Prop} {i : Decidable c} {α β : Type} {a b : α} {k : α → β} {o : β} (hc : ¬ c) (h : jn (@ite α c i a b) k = o) : jn b k = o := by rw [if_neg hc] at h; exact h
theorem bn_t {c : Prop} {i : Decidable c} {α β : Type} {a b : Option α} {k : α → Option β} {o : Option β} (hc : c) (h : bn (@ite (Option α) c i a b) k = o) : bn a k = o := by rw [if_pos hc] at h; exact h
theorem bn_f {c : Prop} {i : Decidable c} {α β : Type} {a b : Option α} {k : α → Option β} {o : Option β} (hc : ¬ c) (h : bn (@ite (Option α) c i a b) k = o) : bn b k = o := by rw [if_neg hc] at h; exact h
theorem bn_s {α β : Type} {x : Option α} {k : α → Option β} {o : β} (h : bn x k = some o) : ∃ a, x = some a ∧ k a = some o := by
  cases x with
  | none => cases h
  | some a => exact ⟨a, rfl, h⟩
/-- a call inside a region whose value is bound -/
theorem bn_b {α β γ : Type} {x : Option α} {k : α → Option β} {j : β → Option γ} {o : γ} (h : bn (bn x k) j = some o) : ∃ a, x = some a ∧ bn (k a) j = some o := by
  cases x with
  | none => cases h
  | some a => exact ⟨a, rfl, h⟩
theorem inb_in {i : Int32} {n : Nat} (h : inb i n = true) : vp_in i n := by
  intro q
  simp only [inb, Bool.not_eq_true', Bool.or_eq_false_iff, decide_eq_false_iff_not] at h
  exact q.elim h.1 h.2
theorem in_inb {i : Int32} {n : Nat} (h : vp_in i n) : inb i n = true := by
  simp only [inb, Bool.not_eq_true', Bool.or_eq_false_iff, decide_eq_false_iff_not]
  exact ⟨fun q => h (Or.inl q), fun q => h (Or.inr q)⟩
theorem ck_s {α : Type} {b : Bool} {k : Option α} {o : α} (h : ck b k = some o) : b = true ∧ k = some o := by
  cases b with
  | false => cases h
  | true => exact ⟨rfl, h⟩
theorem ck_b {α β : Type} {b : Bool} {k : Option α} {j : α → Option β} {o : β} (h : bn (ck b k) j = some o) : b = true ∧ bn k j = some o := by
  cases b with
  | false => cases h
  | true => exact ⟨rfl, h⟩
theorem ck_in {α : Type} {i : Int32} {n : Nat} {k : Option α} {o : α} (h : ck (inb i n) k = some o) : vp_in i n ∧ k = some o := ⟨inb_in (ck_s h).1, (ck_s h).2⟩
theorem ck_inb {α β : Type} {i : Int32} {n : Nat} {k : Option α} {j : α → Option β} {o : β} (h : bn (ck (inb i n) k) j = some o) : vp_in i n ∧ bn k j = some o := ⟨inb_in (ck_b h).1, (ck_b h).2⟩
theorem nz_ne {y : Int32} (h : nz y = true) : ¬ y = 0 := by simpa [nz] using h
theorem nzl_ne {y : Int64} (h : nzl y = true) : ¬ y = 0 := by simpa [nzl] using h
theorem isb_or {y : Int32} (h : isb y = true) : y = 0 ∨ y = 1 := by simpa [isb] using h
theorem ck_nz {α : Type} {y : Int32} {k : Option α} {o : α} (h : ck (nz y) k = some o) : ¬ y = 0 ∧ k = some o := ⟨nz_ne (ck_s h).1, (ck_s h).2⟩
theorem ck_nzl {α : Type} {y : Int64} {k : Option α} {o : α} (h : ck (nzl y) k = some o) : ¬ y = 0 ∧ k = some o := ⟨nzl_ne (ck_s h).1, (ck_s h).2⟩
theorem ck_isb {α : Type} {y : Int32} {k : Option α} {o : α} (h : ck (isb y) k = some o) : (y = 0 ∨ y = 1) ∧ k = some o := ⟨isb_or (ck_s h).1, (ck_s h).2⟩
theorem ck_isc {α : Type} {y : Int32} {k : Option α} {o : α} (h : ck (isc y) k = some o) : narrow .char (.int y) = .int y ∧ k = some o := by
  have e : (y.toUInt32 % 65536).toInt32 = y := by simpa [isc] using (ck_s h).1
  exact ⟨by have q := pk_nc y; rw [e] at q; exact q, (ck_s h).2⟩
theorem ck_isby {α : Type} {y : Int32} {k : Option α} {o : α} (h : ck (isby y) k = some o) : narrow .byte (.int y) = .int y ∧ k = some o := by
  have e : y.toInt8.toInt32 = y := by simpa [isby] using (ck_s h).1
  exact ⟨by have q := pk_nb y; rw [e] at q; exact q, (ck_s h).2⟩
theorem ck_ltJ {α : Type} {i : Nat} {k : Option α} {o : α} (h : ck (ltJ i) k = some o) : i < nJS ∧ k = some o := ⟨by simpa [ltJ] using (ck_s h).1, (ck_s h).2⟩
theorem ck_ltJb {α β : Type} {i : Nat} {k : Option α} {j : α → Option β} {o : β} (h : bn (ck (ltJ i) k) j = some o) : i < nJS ∧ bn k j = some o := ⟨by simpa [ltJ] using (ck_b h).1, (ck_b h).2⟩
theorem ne_toInt {x k : Int32} (h : ¬ x = k) : ¬ x.toInt = k.toInt := fun q => h (Int32.toInt_inj.mp q)
theorem Sx.moved {adK adV : Nat → Nat} {A : Nat → Prop} {u U : State} {H : Heap} (hW : u.WarmedH U.vm) (h : Sx adK adV A u H) : Sx adK adV A U H := ⟨h.1.moved hW.alike, fun i hi => (h.2.1 i hi).warm hW, fun q hq => va_Nw.warmM hW (h.2.2.1 q hq), va_Z.moved hW.alike h.2.2.2.1, va_Zq.moved hW.alike h.2.2.2.2⟩
theorem Sx.kept {adK adV : Nat → Nat} {A : Nat → Prop} {U : State} {H H1 : Heap} (h : Sx adK adV A U H) (hq : ∀ a : Nat, a < H.size → ¬ A a → H1[a]? = H[a]?) : Sx adK adV A U H1 := ⟨h.1.kept hq, h.2.1, h.2.2.1, h.2.2.2.1.kept hq, h.2.2.2.2.kept hq⟩
theorem Sx.narrow {adK adV : Nat → Nat} {A B : Nat → Prop} {U : State} {H : Heap} (h : Sx adK adV A U H) (hAB : ∀ q, B q → A q) : Sx adK adV B U H := ⟨h.1.narrow hAB, h.2.1, h.2.2.1, h.2.2.2.1.narrow hAB, h.2.2.2.2.narrow hAB⟩
theorem Sx.calling {adK adV : Nat → Nat} {A : Nat → Prop} {U : State} {g : JFrame} {mk : MethodId} {a : Array Value} (h : Sx adK adV A U U.heap) : Sx adK adV A (U.calling g mk a) (U.calling g mk a).heap := ⟨h.1.moved (U := U.calling g mk a) (Vm.Alike.refl U.vm), fun i hi => vk_R.same (u := U) (U := U.calling g mk a) rfl (h.2.1 i hi), fun q hq => va_Nw.same (u := U) (U := U.calling g mk a) rfl rfl (h.2.2.1 q hq), va_Z.moved (U := U.calling g mk a) (Vm.Alike.refl U.vm) h.2.2.2.1, va_Zq.moved (U := U.calling g mk a) (Vm.Alike.refl U.vm) h.2.2.2.2⟩
def Pq (D : va_G) (cI : ClassId) (adK adV : Nat → Nat) (wc : va_W) (sz : Nat) (U : State) : Prop := U.heap.size = sz ∧ va_P D vwCl wc U.heap ∧ va_K D vwCl [(cI, .int)] U ∧ va_D (fun _ => True) wc ∧ Sx adK adV (va_A wc sz) U U.heap
def Qq (D : va_G) (cI : ClassId) (A : Nat → Prop) (w1 : (Nat → Nat) → va_W) (rv : Option Value) : Array Value → State → Outcome → State → Prop := fun _ st oc t => (oc = .returned rv ∧ ∃ k : Nat → Nat, va_P D vwCl (w1 k) t.heap ∧ va_K D vwCl [(cI, .int)] t ∧ va_D A (w1 k)) ∧ va_F A st t
/-- A CONTRACT: called with As in a heap that holds wc, the method returns rv, and the heap holds w1 (of some new addresses k); nothing else that was there has changed -/
def Ct (l : Launch) (D : va_G) (cI : ClassId) (adK adV : Nat → Nat) (y : MethodName) (wsy : List Cond) (rm : Room) (mc ms : Nat) (As : List Value) (wc : va_W) (w1 : (Nat → Nat) → va_W) (rv : Option Value) : Prop :=
  ∀ sz : Nat, Met l y wsy rm (va_Pc As (Pq D cI adK adV wc sz)) (Qq D cI (va_A wc sz) w1 rv) mc ms (va_A wc sz)
theorem Pq.blind {D : va_G} {cI : ClassId} {adK adV : Nat → Nat} {wc : va_W} {sz : Nat} {As : List Value} : FrameBlind (va_Pc As (Pq D cI adK adV wc sz)) := by
  intro a U g mk h
  obtain ⟨h0, h1, h2, h3, h4, h5⟩ := h
  exact ⟨h0, h1, h2, va_K.moved (u := U) (U := U.calling g mk a) (Vm.Alike.refl U.vm) h3, h4, h5.calling⟩
section FR
variable {p : Program} {l : Launch} {e : Env} {R : Room} {s : State} {m : MethodId} {args : Array Value} {below : List Frame} {meth : Method} {c : Code} {Q : State → Prop} {cells slots : Nat}
variable {cc : ByteArray} {nL : Nat} {Ts : List Cond} {own : String} {D : va_G} {cI : ClassId} {adK adV : Nat → Nat} {A : Nat → Prop}
variable {pc : Nat} {lv : List (Nat × Value)} {st : List Value} {ws : va_W}
/-- a method's contract out of its walk -/
theorem Ct.of {y : MethodName} {rm : Room} {mc ms : Nat} {As : List Value} {wc : va_W} {w1 : (Nat → Nat) → va_W} {rv : Option Value} {ret : Option FieldType} (hy : plainName y.cls = true) (hn : (lg_sl As).length ≤ nL) (ho : own = y.cls)
    (body : ∀ (p : Program) (e : Env) (s : State) (m : MethodId) (args : Array Value) (below : List Frame) (meth : Method) (c : Code) (A : Nat → Prop), Cx p s m args c cc nL UU own D cI adK adV A → meth.sig.returnType = ret → meth.locks = false → meth.name = y.name → WW p l e (headSpec (wy y cc nL ret) rm).room s m args below meth c (MQ below (Qq D cI A w1 rv) args s mc ms A) nL D A 0 0 0 (lv_args 0 As) [] wc) :
    Ct l D cI adK adV y (wy y cc nL ret) rm mc ms As wc w1 rv := by
  intro sz
  refine Met.ofW (cc := cc) (maxL := nL) (ret := ret) hy rfl ?_
  intro p e s m args below meth c s₁ B hml hv
  obtain ⟨rfl, hsz, hP, hK, hD0, hSx⟩ := hv
  subst ho
  subst hsz
  have hA : ∀ q : Nat, s.heap.size ≤ q → va_A wc s.heap.size q := fun q h => Or.inr h
  have hl := lv_entry As hn
  rw [lg_entry_eq]
  exact body p e s m As.toArray below meth c (va_A wc s.heap.size) ⟨B.exec, B.bytes, hml, findClass_of_methodNamed B.named, fun w h => atoms_spec (ws := wy y cc nL ret) B.pre w (List.mem_cons_of_mem _ h), hK, hSx, hA⟩ B.returns B.notSynchronized (name_of_methodNamed B.named B.method).1 s.heap [] _ hl hP hD0.self va_S.rf

theorem s_iload_n (C : Cx p s m args c cc nL Ts own D cI adK adV A) {k : Fin 4} {x : Int32} (pc1 : Nat) (j : Nat) (hpc : pc + 1 = pc1) (hdg : decode cc pc = .ok (.iload_n k, 1)) (hj : lv[j]? = some ((k : Nat), .int x)) (kk : WW p l e R s m args below meth c Q nL D A cells slots pc1 lv (.int x :: st) ws) : WW p l e R s m args below meth c Q nL D A cells slots pc lv st ws := by
  subst hpc
  exact fun H locs ls hl hP hD hS => lv_iload_n C.1 C.2.1 hdg rfl (lv_at hl j hj) (kk H locs ls hl hP hD hS)
theorem s_iload (C : Cx p s m args c cc nL Ts own D cI adK adV A) {i : Nat} {x : Int32} (pc1 : Nat) (j : Nat) (hpc : pc + 2 = pc1) (hdg : decode cc pc = .ok (.iload i, 2)) (hj : lv[j]? = some (i, .int x)) (kk : WW p l e R s m args below meth c Q nL D A cells slots pc1 lv (.int x :: st) ws) : WW p l e R s m args below meth c Q nL D A cells slots pc lv st ws := by
  subst hpc
  exact fun H locs ls hl hP hD hS => lv_iload C.1 C.2.1 hdg (lv_at hl j hj) (kk H locs ls hl hP hD hS)
theorem s_lload_n (C : Cx p s m args c cc nL Ts own D cI adK adV A) {k : Fin 4} {x : Int64} (pc1 : Nat) (j : Nat) (hpc : pc + 1 = pc1) (hdg : decode cc pc = .ok (.lload_n k, 1)) (hj : lv[j]? = some ((k : Nat), .long x)) (kk : WW p l e R s m args below meth c Q nL D A cells slots pc1 lv (.long x :: st) ws) : WW p l e R s m args below meth c Q nL D A cells slots pc lv st ws := by
  subst hpc
  exact fun H locs ls hl hP hD hS => lv_lload_n C.1 C.2.1 hdg rfl (lv_at hl j hj) (kk H locs ls hl hP hD hS)
theorem s_lload (C : Cx p s m args c cc nL Ts own D cI adK adV A) {i : Nat} {x : Int64} (pc1 : Nat) (j : Nat) (hpc : pc + 2 = pc1) (hdg : decode cc pc = .ok (.lload i, 2)) (hj : lv[j]? = some (i, .long x)) (kk : WW p l e R s m args below meth c Q nL D A cells slots pc1 lv (.long x :: st) ws) : WW p l e R s m args below meth c Q nL D A cells slots pc lv st ws := by
  subst hpc
  exact fun H locs ls hl hP hD hS => lv_lload C.1 C.2.1 hdg (lv_at hl j hj) (kk H locs ls hl hP hD hS)
theorem s_aload_n (C : Cx p s m args c cc nL Ts own D cI adK adV A) {k : Fin 4} {x : Nat} (pc1 : Nat) (j : Nat) (hpc : pc + 1 = pc1) (hdg : decode cc pc = .ok (.aload_n k, 1)) (hj : lv[j]? = some ((k : Nat), .ref x)) (kk : WW p l e R s m args below meth c Q nL D A cells slots pc1 lv (.ref x :: st) ws) : WW p l e R s m args below meth c Q nL D A cells slots pc lv st ws := by
  subst hpc
  exact fun H locs ls hl hP hD hS => lv_aload_n C.1 C.2.1 hdg rfl (lv_at hl j hj) (kk H locs ls hl hP hD hS)
theorem s_aload (C : Cx p s m args c cc nL Ts own D cI adK adV A) {i : Nat} {x : Nat} (pc1 : Nat) (j : Nat) (hpc : pc + 2 = pc1) (hdg : decode cc pc = .ok (.aload i, 2)) (hj : lv[j]? = some (i, .ref x)) (kk : WW p l e R s m args below meth c Q nL D A cells slots pc1 lv (.ref x :: st) ws) : WW p l e R s m args below meth c Q nL D A cells slots pc lv st ws := by
  subst hpc
  exact fun H locs ls hl hP hD hS => lv_aload C.1 C.2.1 hdg (lv_at hl j hj) (kk H locs ls hl hP hD hS)
theorem s_iconst (C : Cx p s m args c cc nL Ts own D cI adK adV A) {n : Int} {v : Int32} (pc1 : Nat) (hpc : pc + 1 = pc1) (hdg : decode cc pc = .ok (.iconst n, 1)) (hv : Int32.ofInt n = v) (kk : WW p l e R s m args below meth c Q nL D A cells slots pc1 lv (.int v :: st) ws) : WW p l e R s m args below meth c Q nL D A cells slots pc lv st ws := by
  subst hpc
  exact fun H locs ls hl hP hD hS => lv_iconst C.1 C.2.1 hdg hv (kk H locs ls hl hP hD hS)
theorem s_bipush (C : Cx p s m args c cc nL Ts own D cI adK adV A) {n : Int} {v : Int32} (pc1 : Nat) (hpc : pc + 2 = pc1) (hdg : decode cc pc = .ok (.bipush n, 2)) (hv : (Int8.ofInt n).toInt32 = v) (kk : WW p l e R s m args below meth c Q nL D A cells slots pc1 lv (.int v :: st) ws) : WW p l e R s m args below meth c Q nL D A cells slots pc lv st ws := by
  subst hpc
  exact fun H locs ls hl hP hD hS => lv_bipush C.1 C.2.1 hdg hv (kk H locs ls hl hP hD hS)
theorem s_sipush (C : Cx p s m args c cc nL Ts own D cI adK adV A) {n : Int} {v : Int32} (pc1 : Nat) (hpc : pc + 3 = pc1) (hdg : decode cc pc = .ok (.sipush n, 3)) (hv : (Int16.ofInt n).toInt32 = v) (kk : WW p l e R s m args below meth c Q nL D A cells slots pc1 lv (.int v :: st) ws) : WW p l e R s m args below meth c Q nL D A cells slots pc lv st ws := by
  subst hpc
  exact fun H locs ls hl hP hD hS => lv_sipush C.1 C.2.1 hdg hv (kk H locs ls hl hP hD hS)
theorem s_lconst (C : Cx p s m args c cc nL Ts own D cI adK adV A) {n : Fin 2} {v : Int64} (pc1 : Nat) (hpc : pc + 1 = pc1) (hdg : decode cc pc = .ok (.lconst n, 1)) (hv : Int64.ofNat (n : Nat) = v) (kk : WW p l e R s m args below meth c Q nL D A cells slots pc1 lv (.long v :: st) ws) : WW p l e R s m args below meth c Q nL D A cells slots pc lv st ws := by
  subst hpc
  exact fun H locs ls hl hP hD hS => lv_lconst C.1 C.2.1 hdg hv (kk H locs ls hl hP hD hS)
theorem s_ldc (C : Cx p s m args c cc nL Ts own D cI adK adV A) {index : Nat} {v : Int32} (pc1 : Nat) (hpc : pc + 2 = pc1) (hdg : decode cc pc = .ok (.ldc index, 2)) (hv : Jvm.Cond.constant own index v ∈ Ts) (kk : WW p l e R s m args below meth c Q nL D A cells slots pc1 lv (.int v :: st) ws) : WW p l e R s m args below meth c Q nL D A cells slots pc lv st ws := by
  subst hpc
  exact fun H locs ls hl hP hD hS => lv_ldc C.1 C.2.1 C.2.2.2.1 (C.2.2.2.2.1 _ hv) hdg (kk H locs ls hl hP hD hS)
theorem s_ldc_w (C : Cx p s m args c cc nL Ts own D cI adK adV A) {index : Nat} {v : Int32} (pc1 : Nat) (hpc : pc + 3 = pc1) (hdg : decode cc pc = .ok (.ldc_w index, 3)) (hv : Jvm.Cond.constant own index v ∈ Ts) (kk : WW p l e R s m args below meth c Q nL D A cells slots pc1 lv (.int v :: st) ws) : WW p l e R s m args below meth c Q nL D A cells slots pc lv st ws := by
  subst hpc
  exact fun H locs ls hl hP hD hS => lv_ldcw C.1 C.2.1 C.2.2.2.1 (C.2.2.2.2.1 _ hv) hdg (kk H locs ls hl hP hD hS)
theorem s_ldc2_w (C : Cx p s m args c cc nL Ts own D cI adK adV A) {index : Nat} {v : Int64} (pc1 : Nat) (hpc : pc + 3 = pc1) (hdg : decode cc pc = .ok (.ldc2_w index, 3)) (hv : Jvm.Cond.constantLong own index v ∈ Ts) (kk : WW p l e R s m args below meth c Q nL D A cells slots pc1 lv (.long v :: st) ws) : WW p l e R s m args below meth c Q nL D A cells slots pc lv st ws := by
  subst hpc
  exact fun H locs ls hl hP hD hS => lv_ldc2 C.1 C.2.1 C.2.2.2.1 (C.2.2.2.2.1 _ hv) hdg (kk H locs ls hl hP hD hS)
theorem s_ldcS (C : Cx p s m args c cc nL Ts own D cI adK adV A) {index i : Nat} {tx : String} (pc1 : Nat) (hpc : pc + 2 = pc1) (hdg : decode cc pc = .ok (.ldc index, 2)) (ho : own = "CoresAreWills$Text") (hi : i < nJS) (hx : ixJS.getD i 0 = index) (kk : WW p l e R s m args below meth c Q nL D A cells slots pc1 lv (.ref (adK i) :: st) ws) : WW p l e R s m args below meth c Q nL D A cells slots pc lv st ws := by
  subst hpc
  subst ho
  subst hx
  exact fun H locs ls hl hP hD hS => va_ldcS C.1 C.2.1 C.2.2.2.1 (C.2.2.2.2.2.2.1.2.1 i hi) hdg (kk H locs ls hl hP hD hS)
theorem s_iadd (C : Cx p s m args c cc nL Ts own D cI adK adV A) {x y : Int32} (pc1 : Nat) (hpc : pc + 1 = pc1) (hdg : decode cc pc = .ok (.iadd, 1)) (kk : WW p l e R s m args below meth c Q nL D A cells slots pc1 lv (.int (x + y) :: st) ws) : WW p l e R s m args below meth c Q nL D A cells slots pc lv (.int y :: .int x :: st) ws := by
  subst hpc
  exact fun H locs ls hl hP hD hS => lv_iadd C.1 C.2.1 hdg (kk H locs ls hl hP hD hS)
theorem s_isub (C : Cx p s m args c cc nL Ts own D cI adK adV A) {x y : Int32} (pc1 : Nat) (hpc : pc + 1 = pc1) (hdg : decode cc pc = .ok (.isub, 1)) (kk : WW p l e R s m args below meth c Q nL D A cells slots pc1 lv (.int (x - y) :: st) ws) : WW p l e R s m args below meth c Q nL D A cells slots pc lv (.int y :: .int x :: st) ws := by
  subst hpc
  exact fun H locs ls hl hP hD hS => lv_isub C.1 C.2.1 hdg (kk H locs ls hl hP hD hS)
theorem s_imul (C : Cx p s m args c cc nL Ts own D cI adK adV A) {x y : Int32} (pc1 : Nat) (hpc : pc + 1 = pc1) (hdg : decode cc pc = .ok (.imul, 1)) (kk : WW p l e R s m args below meth c Q nL D A cells slots pc1 lv (.int (x * y) :: st) ws) : WW p l e R s m args below meth c Q nL D A cells slots pc lv (.int y :: .int x :: st) ws := by
  subst hpc
  exact fun H locs ls hl hP hD hS => lv_imul C.1 C.2.1 hdg (kk H locs ls hl hP hD hS)
theorem s_iand (C : Cx p s m args c cc nL Ts own D cI adK adV A) {x y : Int32} (pc1 : Nat) (hpc : pc + 1 = pc1) (hdg : decode cc pc = .ok (.iand, 1)) (kk : WW p l e R s m args below meth c Q nL D A cells slots pc1 lv (.int (x &&& y) :: st) ws) : WW p l e R s m args below meth c Q nL D A cells slots pc lv (.int y :: .int x :: st) ws := by
  subst hpc
  exact fun H locs ls hl hP hD hS => lv_iand C.1 C.2.1 hdg (kk H locs ls hl hP hD hS)
theorem s_ior (C : Cx p s m args c cc nL Ts own D cI adK adV A) {x y : Int32} (pc1 : Nat) (hpc : pc + 1 = pc1) (hdg : decode cc pc = .ok (.ior, 1)) (kk : WW p l e R s m args below meth c Q nL D A cells slots pc1 lv (.int (x ||| y) :: st) ws) : WW p l e R s m args below meth c Q nL D A cells slots pc lv (.int y :: .int x :: st) ws := by
  subst hpc
  exact fun H locs ls hl hP hD hS => lv_ior C.1 C.2.1 hdg (kk H locs ls hl hP hD hS)
theorem s_ixor (C : Cx p s m args c cc nL Ts own D cI adK adV A) {x y : Int32} (pc1 : Nat) (hpc : pc + 1 = pc1) (hdg : decode cc pc = .ok (.ixor, 1)) (kk : WW p l e R s m args below meth c Q nL D A cells slots pc1 lv (.int (x ^^^ y) :: st) ws) : WW p l e R s m args below meth c Q nL D A cells slots pc lv (.int y :: .int x :: st) ws := by
  subst hpc
  exact fun H locs ls hl hP hD hS => lv_ixor C.1 C.2.1 hdg (kk H locs ls hl hP hD hS)
theorem s_ishl (C : Cx p s m args c cc nL Ts own D cI adK adV A) {x y : Int32} (pc1 : Nat) (hpc : pc + 1 = pc1) (hdg : decode cc pc = .ok (.ishl, 1)) (kk : WW p l e R s m args below meth c Q nL D A cells slots pc1 lv (.int (jshl x y) :: st) ws) : WW p l e R s m args below meth c Q nL D A cells slots pc lv (.int y :: .int x :: st) ws := by
  subst hpc
  exact fun H locs ls hl hP hD hS => lv_ishl C.1 C.2.1 hdg (kk H locs ls hl hP hD hS)
theorem s_ishr (C : Cx p s m args c cc nL Ts own D cI adK adV A) {x y : Int32} (pc1 : Nat) (hpc : pc + 1 = pc1) (hdg : decode cc pc = .ok (.ishr, 1)) (kk : WW p l e R s m args below meth c Q nL D A cells slots pc1 lv (.int (jshr x y) :: st) ws) : WW p l e R s m args below meth c Q nL D A cells slots pc lv (.int y :: .int x :: st) ws := by
  subst hpc
  exact fun H locs ls hl hP hD hS => lv_ishr C.1 C.2.1 hdg (kk H locs ls hl hP hD hS)
theorem s_iushr (C : Cx p s m args c cc nL Ts own D cI adK adV A) {x y : Int32} (pc1 : Nat) (hpc : pc + 1 = pc1) (hdg : decode cc pc = .ok (.iushr, 1)) (kk : WW p l e R s m args below meth c Q nL D A cells slots pc1 lv (.int (jushr x y) :: st) ws) : WW p l e R s m args below meth c Q nL D A cells slots pc lv (.int y :: .int x :: st) ws := by
  subst hpc
  exact fun H locs ls hl hP hD hS => lv_iushr C.1 C.2.1 hdg rfl (kk H locs ls hl hP hD hS)
theorem s_ineg (C : Cx p s m args c cc nL Ts own D cI adK adV A) {x : Int32} (pc1 : Nat) (hpc : pc + 1 = pc1) (hdg : decode cc pc = .ok (.ineg, 1)) (kk : WW p l e R s m args below meth c Q nL D A cells slots pc1 lv (.int (-x) :: st) ws) : WW p l e R s m args below meth c Q nL D A cells slots pc lv (.int x :: st) ws := by
  subst hpc
  exact fun H locs ls hl hP hD hS => lv_ineg C.1 C.2.1 hdg (kk H locs ls hl hP hD hS)
theorem s_idiv (C : Cx p s m args c cc nL Ts own D cI adK adV A) {x y : Int32} (pc1 : Nat) (hpc : pc + 1 = pc1) (hdg : decode cc pc = .ok (.idiv, 1)) (hne : ¬ y = 0) (kk : WW p l e R s m args below meth c Q nL D A cells slots pc1 lv (.int (x / y) :: st) ws) : WW p l e R s m args below meth c Q nL D A cells slots pc lv (.int y :: .int x :: st) ws := by
  subst hpc
  exact fun H locs ls hl hP hD hS => lv_idiv C.1 C.2.1 hdg hne (kk H locs ls hl hP hD hS)
theorem s_irem (C : Cx p s m args c cc nL Ts own D cI adK adV A) {x y : Int32} (pc1 : Nat) (hpc : pc + 1 = pc1) (hdg : decode cc pc = .ok (.irem, 1)) (hne : ¬ y = 0) (kk : WW p l e R s m args below meth c Q nL D A cells slots pc1 lv (.int (jrem x y) :: st) ws) : WW p l e R s m args below meth c Q nL D A cells slots pc lv (.int y :: .int x :: st) ws := by
  subst hpc
  exact fun H locs ls hl hP hD hS => lv_irem C.1 C.2.1 hdg hne (kk H locs ls hl hP hD hS)
theorem s_ladd (C : Cx p s m args c cc nL Ts own D cI adK adV A) {x y : Int64} (pc1 : Nat) (hpc : pc + 1 = pc1) (hdg : decode cc pc = .ok (.ladd, 1)) (kk : WW p l e R s m args below meth c Q nL D A cells slots pc1 lv (.long (x + y) :: st) ws) : WW p l e R s m args below meth c Q nL D A cells slots pc lv (.long y :: .long x :: st) ws := by
  subst hpc
  exact fun H locs ls hl hP hD hS => lv_ladd C.1 C.2.1 hdg (kk H locs ls hl hP hD hS)
theorem s_lsub (C : Cx p s m args c cc nL Ts own D cI adK adV A) {x y : Int64} (pc1 : Nat) (hpc : pc + 1 = pc1) (hdg : decode cc pc = .ok (.lsub, 1)) (kk : WW p l e R s m args below meth c Q nL D A cells slots pc1 lv (.long (x - y) :: st) ws) : WW p l e R s m args below meth c Q nL D A cells slots pc lv (.long y :: .long x :: st) ws := by
  subst hpc
  exact fun H locs ls hl hP hD hS => lv_lsub C.1 C.2.1 hdg (kk H locs ls hl hP hD hS)
theorem s_lmul (C : Cx p s m args c cc nL Ts own D cI adK adV A) {x y : Int64} (pc1 : Nat) (hpc : pc + 1 = pc1) (hdg : decode cc pc = .ok (.lmul, 1)) (kk : WW p l e R s m args below meth c Q nL D A cells slots pc1 lv (.long (x * y) :: st) ws) : WW p l e R s m args below meth c Q nL D A cells slots pc lv (.long y :: .long x :: st) ws := by
  subst hpc
  exact fun H locs ls hl hP hD hS => lv_lmul C.1 C.2.1 hdg (kk H locs ls hl hP hD hS)
theorem s_ldiv (C : Cx p s m args c cc nL Ts own D cI adK adV A) {x y : Int64} (pc1 : Nat) (hpc : pc + 1 = pc1) (hdg : decode cc pc = .ok (.ldiv, 1)) (hne : ¬ y = 0) (kk : WW p l e R s m args below meth c Q nL D A cells slots pc1 lv (.long (x / y) :: st) ws) : WW p l e R s m args below meth c Q nL D A cells slots pc lv (.long y :: .long x :: st) ws := by
  subst hpc
  exact fun H locs ls hl hP hD hS => lv_ldiv C.1 C.2.1 hdg hne (kk H locs ls hl hP hD hS)
theorem s_lrem (C : Cx p s m args c cc nL Ts own D cI adK adV A) {x y : Int64} (pc1 : Nat) (hpc : pc + 1 = pc1) (hdg : decode cc pc = .ok (.lrem, 1)) (hne : ¬ y = 0) (kk : WW p l e R s m args below meth c Q nL D A cells slots pc1 lv (.long (jreml x y) :: st) ws) : WW p l e R s m args below meth c Q nL D A cells slots pc lv (.long y :: .long x :: st) ws := by
  subst hpc
  exact fun H locs ls hl hP hD hS => lv_lrem C.1 C.2.1 hdg hne (kk H locs ls hl hP hD hS)
theorem s_lcmp (C : Cx p s m args c cc nL Ts own D cI adK adV A) {x y : Int64} (pc1 : Nat) (hpc : pc + 1 = pc1) (hdg : decode cc pc = .ok (.lcmp, 1)) (kk : WW p l e R s m args below meth c Q nL D A cells slots pc1 lv (.int (lg_cmp x y) :: st) ws) : WW p l e R s m args below meth c Q nL D A cells slots pc lv (.long y :: .long x :: st) ws := by
  subst hpc
  exact fun H locs ls hl hP hD hS => W.lcmp C.1 C.2.1 hdg (kk H locs ls hl hP hD hS)
theorem s_i2l (C : Cx p s m args c cc nL Ts own D cI adK adV A) {x : Int32} (pc1 : Nat) (hpc : pc + 1 = pc1) (hdg : decode cc pc = .ok (.i2l, 1)) (kk : WW p l e R s m args below meth c Q nL D A cells slots pc1 lv (.long x.toInt64 :: st) ws) : WW p l e R s m args below meth c Q nL D A cells slots pc lv (.int x :: st) ws := by
  subst hpc
  exact fun H locs ls hl hP hD hS => lv_i2l C.1 C.2.1 hdg rfl (kk H locs ls hl hP hD hS)
theorem s_l2i (C : Cx p s m args c cc nL Ts own D cI adK adV A) {x : Int64} (pc1 : Nat) (hpc : pc + 1 = pc1) (hdg : decode cc pc = .ok (.l2i, 1)) (kk : WW p l e R s m args below meth c Q nL D A cells slots pc1 lv (.int x.toInt32 :: st) ws) : WW p l e R s m args below meth c Q nL D A cells slots pc lv (.long x :: st) ws := by
  subst hpc
  exact fun H locs ls hl hP hD hS => lv_l2i C.1 C.2.1 hdg rfl (kk H locs ls hl hP hD hS)
theorem s_i2c (C : Cx p s m args c cc nL Ts own D cI adK adV A) {x : Int32} (pc1 : Nat) (hpc : pc + 1 = pc1) (hdg : decode cc pc = .ok (.i2c, 1)) (kk : WW p l e R s m args below meth c Q nL D A cells slots pc1 lv (.int (x.toUInt32 % 65536).toInt32 :: st) ws) : WW p l e R s m args below meth c Q nL D A cells slots pc lv (.int x :: st) ws := by
  subst hpc
  exact fun H locs ls hl hP hD hS => lv_i2c C.1 C.2.1 hdg rfl (kk H locs ls hl hP hD hS)
theorem s_i2b (C : Cx p s m args c cc nL Ts own D cI adK adV A) {x : Int32} (pc1 : Nat) (hpc : pc + 1 = pc1) (hdg : decode cc pc = .ok (.i2b, 1)) (kk : WW p l e R s m args below meth c Q nL D A cells slots pc1 lv (.int x.toInt8.toInt32 :: st) ws) : WW p l e R s m args below meth c Q nL D A cells slots pc lv (.int x :: st) ws := by
  subst hpc
  exact fun H locs ls hl hP hD hS => lv_i2b C.1 C.2.1 hdg rfl (kk H locs ls hl hP hD hS)
theorem s_dup (C : Cx p s m args c cc nL Ts own D cI adK adV A) {v : Value} (pc1 : Nat) (hpc : pc + 1 = pc1) (hdg : decode cc pc = .ok (.dup, 1)) (hv : v.category = 1) (kk : WW p l e R s m args below meth c Q nL D A cells slots pc1 lv (v :: v :: st) ws) : WW p l e R s m args below meth c Q nL D A cells slots pc lv (v :: st) ws := by
  subst hpc
  exact fun H locs ls hl hP hD hS => lv_dup C.1 C.2.1 hdg hv (kk H locs ls hl hP hD hS)
theorem s_dup2 (C : Cx p s m args c cc nL Ts own D cI adK adV A) {v u : Value} (pc1 : Nat) (hpc : pc + 1 = pc1) (hdg : decode cc pc = .ok (.dup2, 1)) (hv : v.category = 1) (hu : u.category = 1) (kk : WW p l e R s m args below meth c Q nL D A cells slots pc1 lv (v :: u :: v :: u :: st) ws) : WW p l e R s m args below meth c Q nL D A cells slots pc lv (v :: u :: st) ws := by
  subst hpc
  exact fun H locs ls hl hP hD hS => lv_dup2_11 C.1 C.2.1 hdg hv hu (kk H locs ls hl hP hD hS)
theorem s_pop (C : Cx p s m args c cc nL Ts own D cI adK adV A) {v : Value} (pc1 : Nat) (hpc : pc + 1 = pc1) (hdg : decode cc pc = .ok (.pop, 1)) (hv : v.category = 1) (kk : WW p l e R s m args below meth c Q nL D A cells slots pc1 lv st ws) : WW p l e R s m args below meth c Q nL D A cells slots pc lv (v :: st) ws := by
  subst hpc
  exact fun H locs ls hl hP hD hS => lv_pop C.1 C.2.1 hdg hv (kk H locs ls hl hP hD hS)
theorem s_istore_n (C : Cx p s m args c cc nL Ts own D cI adK adV A) {k : Fin 4} {x : Int32} {lv1 : List (Nat × Value)} (pc1 i : Nat) (hpc : pc + 1 = pc1) (hdg : decode cc pc = .ok (.istore_n k, 1)) (hi : (k : Nat) = i) (hn : i < nL) (hl1 : (i, Value.int x) :: lv.filter (fun q => !(q.1 == i) && !(q.1 + 1 == i && q.2.category == 2)) = lv1) (kk : WW p l e R s m args below meth c Q nL D A cells slots pc1 lv1 st ws) : WW p l e R s m args below meth c Q nL D A cells slots pc lv (.int x :: st) ws := by
  subst hpc
  exact fun H locs ls hl hP hD hS => lv_istore_n C.1 C.2.1 hdg hi hl hn hl1 (fun ls1 hl1 => kk H locs ls1 hl1 hP hD hS)
theorem s_istore (C : Cx p s m args c cc nL Ts own D cI adK adV A) {x : Int32} {lv1 : List (Nat × Value)} (pc1 i : Nat) (hpc : pc + 2 = pc1) (hdg : decode cc pc = .ok (.istore i, 2)) (hn : i < nL) (hl1 : (i, Value.int x) :: lv.filter (fun q => !(q.1 == i) && !(q.1 + 1 == i && q.2.category == 2)) = lv1) (kk : WW p l e R s m args below meth c Q nL D A cells slots pc1 lv1 st ws) : WW p l e R s m args below meth c Q nL D A cells slots pc lv (.int x :: st) ws := by
  subst hpc
  exact fun H locs ls hl hP hD hS => lv_istore C.1 C.2.1 hdg hl hn hl1 (fun ls1 hl1 => kk H locs ls1 hl1 hP hD hS)
theorem s_astore_n (C : Cx p s m args c cc nL Ts own D cI adK adV A) {k : Fin 4} {x : Nat} {lv1 : List (Nat × Value)} (pc1 i : Nat) (hpc : pc + 1 = pc1) (hdg : decode cc pc = .ok (.astore_n k, 1)) (hi : (k : Nat) = i) (hn : i < nL) (hl1 : (i, Value.ref x) :: lv.filter (fun q => !(q.1 == i) && !(q.1 + 1 == i && q.2.category == 2)) = lv1) (kk : WW p l e R s m args below meth c Q nL D A cells slots pc1 lv1 st ws) : WW p l e R s m args below meth c Q nL D A cells slots pc lv (.ref x :: st) ws := by
  subst hpc
  exact fun H locs ls hl hP hD hS => lv_astore_n C.1 C.2.1 hdg hi hl hn hl1 (fun ls1 hl1 => kk H locs ls1 hl1 hP hD hS)
theorem s_astore (C : Cx p s m args c cc nL Ts own D cI adK adV A) {x : Nat} {lv1 : List (Nat × Value)} (pc1 i : Nat) (hpc : pc + 2 = pc1) (hdg : decode cc pc = .ok (.astore i, 2)) (hn : i < nL) (hl1 : (i, Value.ref x) :: lv.filter (fun q => !(q.1 == i) && !(q.1 + 1 == i && q.2.category == 2)) = lv1) (kk : WW p l e R s m args below meth c Q nL D A cells slots pc1 lv1 st ws) : WW p l e R s m args below meth c Q nL D A cells slots pc lv (.ref x :: st) ws := by
  subst hpc
  exact fun H locs ls hl hP hD hS => lv_astore C.1 C.2.1 hdg hl hn hl1 (fun ls1 hl1 => kk H locs ls1 hl1 hP hD hS)
theorem s_lstore_n (C : Cx p s m args c cc nL Ts own D cI adK adV A) {k : Fin 4} {x : Int64} {lv1 : List (Nat × Value)} (pc1 i : Nat) (hpc : pc + 1 = pc1) (hdg : decode cc pc = .ok (.lstore_n k, 1)) (hi : (k : Nat) = i) (hn : i + 1 < nL) (hl1 : (i, Value.long x) :: lv.filter (fun q => !(q.1 == i) && (!(q.1 == i + 1) && !(q.1 + 1 == i && q.2.category == 2))) = lv1) (kk : WW p l e R s m args below meth c Q nL D A cells slots pc1 lv1 st ws) : WW p l e R s m args below meth c Q nL D A cells slots pc lv (.long x :: st) ws := by
  subst hpc
  exact fun H locs ls hl hP hD hS => lv_lstore_n C.1 C.2.1 hdg hi hl hn hl1 (fun ls1 hl1 => kk H locs ls1 hl1 hP hD hS)
theorem s_lstore (C : Cx p s m args c cc nL Ts own D cI adK adV A) {x : Int64} {lv1 : List (Nat × Value)} (pc1 i : Nat) (hpc : pc + 2 = pc1) (hdg : decode cc pc = .ok (.lstore i, 2)) (hn : i + 1 < nL) (hl1 : (i, Value.long x) :: lv.filter (fun q => !(q.1 == i) && (!(q.1 == i + 1) && !(q.1 + 1 == i && q.2.category == 2))) = lv1) (kk : WW p l e R s m args below meth c Q nL D A cells slots pc1 lv1 st ws) : WW p l e R s m args below meth c Q nL D A cells slots pc lv (.long x :: st) ws := by
  subst hpc
  exact fun H locs ls hl hP hD hS => lv_lstore C.1 C.2.1 hdg hl hn hl1 (fun ls1 hl1 => kk H locs ls1 hl1 hP hD hS)
theorem s_iinc (C : Cx p s m args c cc nL Ts own D cI adK adV A) {n : Int} {x d : Int32} {lv1 : List (Nat × Value)} (pc1 i k : Nat) (hpc : pc + 3 = pc1) (hdg : decode cc pc = .ok (.iinc i n, 3)) (hk : lv[k]? = some (i, .int x)) (hd : Int32.ofInt n = d) (hn : i < nL) (hl1 : (i, Value.int (x + d)) :: lv.filter (fun q => !(q.1 == i) && !(q.1 + 1 == i && q.2.category == 2)) = lv1) (kk : WW p l e R s m args below meth c Q nL D A cells slots pc1 lv1 st ws) : WW p l e R s m args below meth c Q nL D A cells slots pc lv st ws := by
  subst hpc
  subst hd
  exact fun H locs ls hl hP hD hS => lv_iinc C.1 C.2.1 hdg hl hk rfl hn hl1 (fun ls1 hl1 => kk H locs ls1 hl1 hP hD hS)
-- CONDS
theorem s_goto (C : Cx p s m args c cc nL Ts own D cI adK adV A) {off : Int} (tgt : Nat) (hdg : decode cc pc = .ok (.goto off, 3)) (ht : (pc : Int) + off = (tgt : Int)) (kk : WW p l e R s m args below meth c Q nL D A cells slots tgt lv st ws) : WW p l e R s m args below meth c Q nL D A cells slots pc lv st ws := fun H locs ls hl hP hD hS => lv_goto C.1 C.2.1 hdg ht (kk H locs ls hl hP hD hS)
theorem s_if_eq (C : Cx p s m args c cc nL Ts own D cI adK adV A) {x : Int32} {off : Int} (tgt pc1 : Nat) (hpc : pc + 3 = pc1) (hdg : decode cc pc = .ok (.ifCond .eq off, 3)) (ht : (pc : Int) + off = (tgt : Int)) (kt : x = 0 → WW p l e R s m args below meth c Q nL D A cells slots tgt lv st ws) (kf : ¬ (x = 0) → WW p l e R s m args below meth c Q nL D A cells slots pc1 lv st ws) : WW p l e R s m args below meth c Q nL D A cells slots pc lv (.int x :: st) ws := by
  subst hpc
  exact fun H locs ls hl hP hD hS => lv_if_eq C.1 C.2.1 hdg ht (fun h => kt h H locs ls hl hP hD hS) (fun h => kf h H locs ls hl hP hD hS)
theorem s_icmp_eq (C : Cx p s m args c cc nL Ts own D cI adK adV A) {x y : Int32} {off : Int} (tgt pc1 : Nat) (hpc : pc + 3 = pc1) (hdg : decode cc pc = .ok (.if_icmp .eq off, 3)) (ht : (pc : Int) + off = (tgt : Int)) (kt : x = y → WW p l e R s m args below meth c Q nL D A cells slots tgt lv st ws) (kf : ¬ (x = y) → WW p l e R s m args below meth c Q nL D A cells slots pc1 lv st ws) : WW p l e R s m args below meth c Q nL D A cells slots pc lv (.int y :: .int x :: st) ws := by
  subst hpc
  exact fun H locs ls hl hP hD hS => lv_icmp_eq C.1 C.2.1 hdg ht (fun h => kt h H locs ls hl hP hD hS) (fun h => kf h H locs ls hl hP hD hS)
theorem s_if_ne (C : Cx p s m args c cc nL Ts own D cI adK adV A) {x : Int32} {off : Int} (tgt pc1 : Nat) (hpc : pc + 3 = pc1) (hdg : decode cc pc = .ok (.ifCond .ne off, 3)) (ht : (pc : Int) + off = (tgt : Int)) (kt : ¬ x = 0 → WW p l e R s m args below meth c Q nL D A cells slots tgt lv st ws) (kf : x = 0 → WW p l e R s m args below meth c Q nL D A cells slots pc1 lv st ws) : WW p l e R s m args below meth c Q nL D A cells slots pc lv (.int x :: st) ws := by
  subst hpc
  exact fun H locs ls hl hP hD hS => lv_if_ne C.1 C.2.1 hdg ht (fun h => kt h H locs ls hl hP hD hS) (fun h => kf h H locs ls hl hP hD hS)
theorem s_icmp_ne (C : Cx p s m args c cc nL Ts own D cI adK adV A) {x y : Int32} {off : Int} (tgt pc1 : Nat) (hpc : pc + 3 = pc1) (hdg : decode cc pc = .ok (.if_icmp .ne off, 3)) (ht : (pc : Int) + off = (tgt : Int)) (kt : ¬ x = y → WW p l e R s m args below meth c Q nL D A cells slots tgt lv st ws) (kf : x = y → WW p l e R s m args below meth c Q nL D A cells slots pc1 lv st ws) : WW p l e R s m args below meth c Q nL D A cells slots pc lv (.int y :: .int x :: st) ws := by
  subst hpc
  exact fun H locs ls hl hP hD hS => lv_icmp_ne C.1 C.2.1 hdg ht (fun h => kt h H locs ls hl hP hD hS) (fun h => kf h H locs ls hl hP hD hS)
theorem s_if_lt (C : Cx p s m args c cc nL Ts own D cI adK adV A) {x : Int32} {off : Int} (tgt pc1 : Nat) (hpc : pc + 3 = pc1) (hdg : decode cc pc = .ok (.ifCond .lt off, 3)) (ht : (pc : Int) + off = (tgt : Int)) (kt : x < 0 → WW p l e R s m args below meth c Q nL D A cells slots tgt lv st ws) (kf : ¬ (x < 0) → WW p l e R s m args below meth c Q nL D A cells slots pc1 lv st ws) : WW p l e R s m args below meth c Q nL D A cells slots pc lv (.int x :: st) ws := by
  subst hpc
  exact fun H locs ls hl hP hD hS => lv_if_lt C.1 C.2.1 hdg ht (fun h => kt h H locs ls hl hP hD hS) (fun h => kf h H locs ls hl hP hD hS)
theorem s_icmp_lt (C : Cx p s m args c cc nL Ts own D cI adK adV A) {x y : Int32} {off : Int} (tgt pc1 : Nat) (hpc : pc + 3 = pc1) (hdg : decode cc pc = .ok (.if_icmp .lt off, 3)) (ht : (pc : Int) + off = (tgt : Int)) (kt : x < y → WW p l e R s m args below meth c Q nL D A cells slots tgt lv st ws) (kf : ¬ (x < y) → WW p l e R s m args below meth c Q nL D A cells slots pc1 lv st ws) : WW p l e R s m args below meth c Q nL D A cells slots pc lv (.int y :: .int x :: st) ws := by
  subst hpc
  exact fun H locs ls hl hP hD hS => lv_icmp_lt C.1 C.2.1 hdg ht (fun h => kt h H locs ls hl hP hD hS) (fun h => kf h H locs ls hl hP hD hS)
theorem s_if_ge (C : Cx p s m args c cc nL Ts own D cI adK adV A) {x : Int32} {off : Int} (tgt pc1 : Nat) (hpc : pc + 3 = pc1) (hdg : decode cc pc = .ok (.ifCond .ge off, 3)) (ht : (pc : Int) + off = (tgt : Int)) (kt : 0 ≤ x → WW p l e R s m args below meth c Q nL D A cells slots tgt lv st ws) (kf : ¬ (0 ≤ x) → WW p l e R s m args below meth c Q nL D A cells slots pc1 lv st ws) : WW p l e R s m args below meth c Q nL D A cells slots pc lv (.int x :: st) ws := by
  subst hpc
  exact fun H locs ls hl hP hD hS => lv_if_ge C.1 C.2.1 hdg ht (fun h => kt h H locs ls hl hP hD hS) (fun h => kf h H locs ls hl hP hD hS)
theorem s_icmp_ge (C : Cx p s m args c cc nL Ts own D cI adK adV A) {x y : Int32} {off : Int} (tgt pc1 : Nat) (hpc : pc + 3 = pc1) (hdg : decode cc pc = .ok (.if_icmp .ge off, 3)) (ht : (pc : Int) + off = (tgt : Int)) (kt : y ≤ x → WW p l e R s m args below meth c Q nL D A cells slots tgt lv st ws) (kf : ¬ (y ≤ x) → WW p l e R s m args below meth c Q nL D A cells slots pc1 lv st ws) : WW p l e R s m args below meth c Q nL D A cells slots pc lv (.int y :: .int x :: st) ws := by
  subst hpc
  exact fun H locs ls hl hP hD hS => lv_icmp_ge C.1 C.2.1 hdg ht (fun h => kt h H locs ls hl hP hD hS) (fun h => kf h H locs ls hl hP hD hS)
theorem s_if_gt (C : Cx p s m args c cc nL Ts own D cI adK adV A) {x : Int32} {off : Int} (tgt pc1 : Nat) (hpc : pc + 3 = pc1) (hdg : decode cc pc = .ok (.ifCond .gt off, 3)) (ht : (pc : Int) + off = (tgt : Int)) (kt : 0 < x → WW p l e R s m args below meth c Q nL D A cells slots tgt lv st ws) (kf : ¬ (0 < x) → WW p l e R s m args below meth c Q nL D A cells slots pc1 lv st ws) : WW p l e R s m args below meth c Q nL D A cells slots pc lv (.int x :: st) ws := by
  subst hpc
  exact fun H locs ls hl hP hD hS => lv_if_gt C.1 C.2.1 hdg ht (fun h => kt h H locs ls hl hP hD hS) (fun h => kf h H locs ls hl hP hD hS)
theorem s_icmp_gt (C : Cx p s m args c cc nL Ts own D cI adK adV A) {x y : Int32} {off : Int} (tgt pc1 : Nat) (hpc : pc + 3 = pc1) (hdg : decode cc pc = .ok (.if_icmp .gt off, 3)) (ht : (pc : Int) + off = (tgt : Int)) (kt : y < x → WW p l e R s m args below meth c Q nL D A cells slots tgt lv st ws) (kf : ¬ (y < x) → WW p l e R s m args below meth c Q nL D A cells slots pc1 lv st ws) : WW p l e R s m args below meth c Q nL D A cells slots pc lv (.int y :: .int x :: st) ws := by
  subst hpc
  exact fun H locs ls hl hP hD hS => lv_icmp_gt C.1 C.2.1 hdg ht (fun h => kt h H locs ls hl hP hD hS) (fun h => kf h H locs ls hl hP hD hS)
theorem s_if_le (C : Cx p s m args c cc nL Ts own D cI adK adV A) {x : Int32} {off : Int} (tgt pc1 : Nat) (hpc : pc + 3 = pc1) (hdg : decode cc pc = .ok (.ifCond .le off, 3)) (ht : (pc : Int) + off = (tgt : Int)) (kt : x ≤ 0 → WW p l e R s m args below meth c Q nL D A cells slots tgt lv st ws) (kf : ¬ (x ≤ 0) → WW p l e R s m args below meth c Q nL D A cells slots pc1 lv st ws) : WW p l e R s m args below meth c Q nL D A cells slots pc lv (.int x :: st) ws := by
  subst hpc
  exact fun H locs ls hl hP hD hS => lv_if_le C.1 C.2.1 hdg ht (fun h => kt h H locs ls hl hP hD hS) (fun h => kf h H locs ls hl hP hD hS)
theorem s_icmp_le (C : Cx p s m args c cc nL Ts own D cI adK adV A) {x y : Int32} {off : Int} (tgt pc1 : Nat) (hpc : pc + 3 = pc1) (hdg : decode cc pc = .ok (.if_icmp .le off, 3)) (ht : (pc : Int) + off = (tgt : Int)) (kt : x ≤ y → WW p l e R s m args below meth c Q nL D A cells slots tgt lv st ws) (kf : ¬ (x ≤ y) → WW p l e R s m args below meth c Q nL D A cells slots pc1 lv st ws) : WW p l e R s m args below meth c Q nL D A cells slots pc lv (.int y :: .int x :: st) ws := by
  subst hpc
  exact fun H locs ls hl hP hD hS => lv_icmp_le C.1 C.2.1 hdg ht (fun h => kt h H locs ls hl hP hD hS) (fun h => kf h H locs ls hl hP hD hS)
theorem s_lookup (C : Cx p s m args c cc nL Ts own D cI adK adV A) {dflt : Int} {ps : Array (Int × Int)} {len : Nat} {x : Int32} {off : Int} (tgt : Nat) (hdg : decode cc pc = .ok (.lookupswitch dflt ps, len)) (hp : (ps.toList.zip (ps.toList.drop 1)).all (fun (a, next) => a.1 < next.1) = true) (ho : Op.lookupswitch.offset ps.toList dflt x.toInt = off) (ht : (pc : Int) + off = (tgt : Int)) (kk : WW p l e R s m args below meth c Q nL D A cells slots tgt lv st ws) : WW p l e R s m args below meth c Q nL D A cells slots pc lv (.int x :: st) ws := fun H locs ls hl hP hD hS => lv_lookup C.1 C.2.1 hdg hp ho ht (kk H locs ls hl hP hD hS)
theorem s_tableOut (C : Cx p s m args c cc nL Ts own D cI adK adV A) {dflt lo hi : Int} {offs : Array Int} {len : Nat} {x : Int32} (tgt : Nat) (hdg : decode cc pc = .ok (.tableswitch dflt lo hi offs, len)) (h : x.toInt < lo ∨ hi < x.toInt) (ht : (pc : Int) + dflt = (tgt : Int)) (kk : WW p l e R s m args below meth c Q nL D A cells slots tgt lv st ws) : WW p l e R s m args below meth c Q nL D A cells slots pc lv (.int x :: st) ws := fun H locs ls hl hP hD hS => lv_tableOut C.1 C.2.1 hdg h ht (kk H locs ls hl hP hD hS)
theorem s_tableH (C : Cx p s m args c cc nL Ts own D cI adK adV A) {dflt lo hi : Int} {offs : Array Int} {len : Nat} {x : Int32} (tgt : Nat) (hdg : decode cc pc = .ok (.tableswitch dflt lo hi offs, len)) (h : (x.toInt < lo ∨ hi < x.toInt) ∨ (¬ x.toInt < lo ∧ ¬ hi < x.toInt ∧ offs[(x.toInt - lo).toNat]? = some dflt)) (ht : (pc : Int) + dflt = (tgt : Int)) (kk : WW p l e R s m args below meth c Q nL D A cells slots tgt lv st ws) : WW p l e R s m args below meth c Q nL D A cells slots pc lv (.int x :: st) ws := fun H locs ls hl hP hD hS => by
  rcases h with h | ⟨h1, h2, h3⟩
  · exact lv_tableOut C.1 C.2.1 hdg h ht (kk H locs ls hl hP hD hS)
  · exact lv_tableIn C.1 C.2.1 hdg h1 h2 h3 ht (kk H locs ls hl hP hD hS)
theorem s_tableIn (C : Cx p s m args c cc nL Ts own D cI adK adV A) {dflt lo hi : Int} {offs : Array Int} {len : Nat} {x : Int32} {off : Int} (tgt : Nat) (hdg : decode cc pc = .ok (.tableswitch dflt lo hi offs, len)) (h1 : ¬ x.toInt < lo) (h2 : ¬ hi < x.toInt) (ho : offs[(x.toInt - lo).toNat]? = some off) (ht : (pc : Int) + off = (tgt : Int)) (kk : WW p l e R s m args below meth c Q nL D A cells slots tgt lv st ws) : WW p l e R s m args below meth c Q nL D A cells slots pc lv (.int x :: st) ws := fun H locs ls hl hP hD hS => lv_tableIn C.1 C.2.1 hdg h1 h2 ho ht (kk H locs ls hl hP hD hS)
theorem s_lv {lv1 : List (Nat × Value)} (ks : List Nat) (h : lv_pick lv ks = lv1) (kk : WW p l e R s m args below meth c Q nL D A cells slots pc lv1 st ws) : WW p l e R s m args below meth c Q nL D A cells slots pc lv st ws := fun H locs ls hl hP hD hS => kk H locs ls (lv_sub hl ks h) hP hD hS
theorem s_ws {ws1 : va_W} (is : List Nat) (hn : va_nd is = true) (h : is.filterMap (fun i => ws[i]?) = ws1) (h2 : is.map (fun i => ws[i]?) = ws1.map some) (kk : WW p l e R s m args below meth c Q nL D A cells slots pc lv st ws1) : WW p l e R s m args below meth c Q nL D A cells slots pc lv st ws := fun H locs ls hl hP hD hS => kk H locs ls hl (hP.sub is h) (hD.sub is hn h2) hS
theorem s_get (C : Cx p s m args c cc nL Ts own D cI adK adV A) {ref C1 : String} {T : u_T} {N ci index a : Nat} {fs : List Value} {v : Value} (pc1 q0 k : Nat) (hin : ∀ w ∈ u_ws C1 T N, w ∈ Ts) (he : ws[q0]? = some (a, .inr (ci, fs))) (hc : vwCl[ci]? = some (C1, T, N)) (hk : k < N) (hlink : Cond.fieldLink own index ref (T k).2.1 (T k).2.2.1 ∈ Ts) (hsame : ref = (T k).1) (hv : fs[k]? = some v) (hpc : pc + 3 = pc1) (hdg : decode cc pc = .ok (.getfield index, 3)) (kk : WW p l e R s m args below meth c Q nL D A cells slots pc1 lv (v :: st) ws) : WW p l e R s m args below meth c Q nL D A cells slots pc lv (.ref a :: st) ws := by
  subst hpc
  subst hsame
  exact fun H locs ls hl hP hD hS => va_get C.1 C.2.1 C.2.2.2.2.1 hin C.2.2.2.1 C.2.2.2.2.2.1 hP q0 he hc k hk (C.2.2.2.2.1 _ hlink) (fun _ h => h) hv hdg (kk H locs ls hl hP hD hS)
theorem s_put (C : Cx p s m args c cc nL Ts own D cI adK adV A) {ref C1 : String} {T : u_T} {N ci index a : Nat} {fs : List Value} {v : Value} {ty : FieldType} {ws1 : va_W} (pc1 q0 k : Nat) (hin : ∀ w ∈ u_ws C1 T N, w ∈ Ts) (ty0 : Nat → FieldType) (hty : ∀ k, k < N → parseFieldDescriptor (T k).2.2.1 = some (ty0 k)) (hnm : ∀ a, a < N → ∀ b, b < N → a ≠ b → (T a).2.1 ≠ (T b).2.1) (he : ws[q0]? = some (a, .inr (ci, fs))) (hc : vwCl[ci]? = some (C1, T, N)) (hk : k < N) (hlink : Cond.fieldLink own index ref (T k).2.1 (T k).2.2.1 ∈ Ts) (hsame : ref = (T k).1) (hfin : (T k).2.2.2 = false) (hd : parseFieldDescriptor (T k).2.2.1 = some ty) (hnf : narrow ty v = v ∧ fits ty v = true) (hl : k < fs.length) (hws : ws.set q0 (a, .inr (ci, fs.set k v)) = ws1) (hpc : pc + 3 = pc1) (hdg : decode cc pc = .ok (.putfield index, 3)) (kk : WW p l e R s m args below meth c Q nL D A cells slots pc1 lv st ws1) : WW p l e R s m args below meth c Q nL D A cells slots pc lv (v :: .ref a :: st) ws := by
  subst hpc
  subst hsame
  subst hws
  exact fun H locs ls hl0 hP hD hS => va_put C.1 C.2.1 C.2.2.2.2.1 hin ty0 hty hnm C.2.2.2.1 C.2.2.2.2.2.1 hP hD hS q0 he hc k hk (C.2.2.2.2.1 _ hlink) (fun _ h => h) hfin hd hnf.1 hnf.2 hl hdg (fun H1 locs1 hP1 hD1 hS1 => kk H1 locs1 ls hl0 hP1 hD1 hS1)
theorem s_putF (C : Cx p s m args c cc nL Ts own D cI adK adV A) {ref C1 : String} {T : u_T} {N ci index a : Nat} {fs : List Value} {v : Value} {ty : FieldType} {ws1 : va_W} (pc1 q0 k : Nat) (hin : ∀ w ∈ u_ws C1 T N, w ∈ Ts) (ty0 : Nat → FieldType) (hty : ∀ k, k < N → parseFieldDescriptor (T k).2.2.1 = some (ty0 k)) (hnm : ∀ a, a < N → ∀ b, b < N → a ≠ b → (T a).2.1 ≠ (T b).2.1) (he : ws[q0]? = some (a, .inr (ci, fs))) (hc : vwCl[ci]? = some (C1, T, N)) (hk : k < N) (hlink : Cond.fieldLink own index ref (T k).2.1 (T k).2.2.1 ∈ Ts) (hsame : ref = (T k).1) (hfin : (T k).2.2.2 = true) (hin2 : meth.name = "<init>") (hdecl : (T k).1 = own) (hd : parseFieldDescriptor (T k).2.2.1 = some ty) (hnf : narrow ty v = v ∧ fits ty v = true) (hl : k < fs.length) (hws : ws.set q0 (a, .inr (ci, fs.set k v)) = ws1) (hpc : pc + 3 = pc1) (hdg : decode cc pc = .ok (.putfield index, 3)) (kk : WW p l e R s m args below meth c Q nL D A cells slots pc1 lv st ws1) : WW p l e R s m args below meth c Q nL D A cells slots pc lv (v :: .ref a :: st) ws := by
  subst hpc
  subst hsame
  subst hws
  exact fun H locs ls hl0 hP hD hS => va_putF C.1 C.2.1 C.2.2.2.2.1 hin ty0 hty hnm C.2.2.2.1 C.2.2.2.2.2.1 hP hD hS q0 he hc k hk (C.2.2.2.2.1 _ hlink) (fun _ h => h) hfin hin2 hdecl hd hnf.1 hnf.2 hl hdg (fun H1 locs1 hP1 hD1 hS1 => kk H1 locs1 ls hl0 hP1 hD1 hS1)
theorem s_iald (C : Cx p s m args c cc nL Ts own D cI adK adV A) {a n : Nat} {f : Nat → Int32} {i : Int32} (pc1 q0 : Nat) (ha : ws[q0]? = some (a, .inl (cI, n, .inl f))) (hin : vp_in i n) (hpc : pc + 1 = pc1) (hdg : decode cc pc = .ok (.iaload, 1)) (kk : WW p l e R s m args below meth c Q nL D A cells slots pc1 lv (.int (f i.toNatClampNeg) :: st) ws) : WW p l e R s m args below meth c Q nL D A cells slots pc lv (.int i :: .ref a :: st) ws := by
  subst hpc
  exact fun H locs ls hl hP hD hS => va_iald C.1 C.2.1 C.2.2.2.2.2.1 hP q0 0 ha rfl hin hdg (kk H locs ls hl hP hD hS)
theorem s_iast (C : Cx p s m args c cc nL Ts own D cI adK adV A) {a n : Nat} {f : Nat → Int32} {i x : Int32} {ws1 : va_W} (pc1 q0 : Nat) (ha : ws[q0]? = some (a, .inl (cI, n, .inl f))) (hin : vp_in i n) (hws : ws.set q0 (a, .inl (cI, n, .inl (upd f i.toNatClampNeg x))) = ws1) (hpc : pc + 1 = pc1) (hdg : decode cc pc = .ok (.iastore, 1)) (kk : WW p l e R s m args below meth c Q nL D A cells slots pc1 lv st ws1) : WW p l e R s m args below meth c Q nL D A cells slots pc lv (.int x :: .int i :: .ref a :: st) ws := by
  subst hpc
  subst hws
  exact fun H locs ls hl hP hD hS => va_iast C.1 C.2.1 C.2.2.2.2.2.1 hP hD hS q0 0 ha rfl hin hdg (fun H1 locs1 hP1 hD1 hS1 => kk H1 locs1 ls hl hP1 hD1 hS1)
theorem s_getSv (C : Cx p s m args c cc nL Ts own D cI adK adV A) {ref : String} {index i : Nat} (pc1 : Nat) (hi : i < nJS) (hlink : Cond.fieldLink own index ref "value" "[B" ∈ Ts) (hsame : ref = "java/lang/String") (hpc : pc + 3 = pc1) (hdg : decode cc pc = .ok (.getfield index, 3)) (kk : WW p l e R s m args below meth c Q nL D A cells slots pc1 lv (.ref (adV i) :: st) ws) : WW p l e R s m args below meth c Q nL D A cells slots pc lv (.ref (adK i) :: st) ws := by
  subst hpc
  subst hsame
  exact fun H locs ls hl hP hD hS => va_getX (N := nJS) (i := i) (v := fun i => .ref (adV i)) (ad := adK) C.1 C.2.1 (fun j hj => (C.2.2.2.2.2.2.1.1.1 j hj).2.2.1) hi hS C.2.2.2.1 (C.2.2.2.2.1 _ hlink) (fun _ h => h) hdg (kk H locs ls hl hP hD hS)
theorem s_getSc (C : Cx p s m args c cc nL Ts own D cI adK adV A) {ref : String} {index i : Nat} (pc1 : Nat) (hi : i < nJS) (hlink : Cond.fieldLink own index ref "coder" "B" ∈ Ts) (hsame : ref = "java/lang/String") (hpc : pc + 3 = pc1) (hdg : decode cc pc = .ok (.getfield index, 3)) (kk : WW p l e R s m args below meth c Q nL D A cells slots pc1 lv (.int 0 :: st) ws) : WW p l e R s m args below meth c Q nL D A cells slots pc lv (.ref (adK i) :: st) ws := by
  subst hpc
  subst hsame
  exact fun H locs ls hl hP hD hS => va_getX (N := nJS) (i := i) (v := fun _ => .int 0) (ad := adK) C.1 C.2.1 (fun j hj => (C.2.2.2.2.2.2.1.1.1 j hj).2.1) hi hS C.2.2.2.1 (C.2.2.2.2.1 _ hlink) (fun _ h => h) hdg (kk H locs ls hl hP hD hS)
theorem s_getsC (C : Cx p s m args c cc nL Ts own D cI adK adV A) {ref : String} {index : Nat} (pc1 : Nat) (hlink : Cond.fieldLink own index ref "COMPACT_STRINGS" "Z" ∈ Ts) (hsame : ref = "java/lang/String") (hpc : pc + 3 = pc1) (hdg : decode cc pc = .ok (.getstatic index, 3)) (kk : WW p l e R s m args below meth c Q nL D A cells slots pc1 lv (.int 1 :: st) ws) : WW p l e R s m args below meth c Q nL D A cells slots pc lv st ws := by
  subst hpc
  subst hsame
  exact fun H locs ls hl hP hD hS => va_gets C.1 C.2.1 C.2.2.2.2.2.2.1.2.2.2.1 hS C.2.2.2.1 (C.2.2.2.2.1 _ hlink) (fun _ h => h) hdg (kk H locs ls hl hP hD hS)
theorem s_getsF (C : Cx p s m args c cc nL Ts own D cI adK adV A) {ref : String} {index : Nat} (pc1 : Nat) (hlink : Cond.fieldLink own index ref "SIOOBE_FORMATTER" "Ljava/util/function/BiFunction;" ∈ Ts) (hsame : ref = "jdk/internal/util/Preconditions") (hpc : pc + 3 = pc1) (hdg : decode cc pc = .ok (.getstatic index, 3)) (kk : ∀ q : Option Nat, WW p l e R s m args below meth c Q nL D A cells slots pc1 lv (va_rf q :: st) ws) : WW p l e R s m args below meth c Q nL D A cells slots pc lv st ws := by
  subst hpc
  subst hsame
  intro H locs ls hl hP hD hS
  rcases C.2.2.2.2.2.2.1.2.2.2.2 with h | ⟨t, h⟩
  · exact va_gets C.1 C.2.1 h hS C.2.2.2.1 (C.2.2.2.2.1 _ hlink) (fun _ h => h) hdg (kk none H locs ls hl hP hD hS)
  · exact va_gets C.1 C.2.1 h hS C.2.2.2.1 (C.2.2.2.2.1 _ hlink) (fun _ h => h) hdg (kk (some t) H locs ls hl hP hD hS)
theorem s_alenS (C : Cx p s m args c cc nL Ts own D cI adK adV A) {i : Nat} (pc1 : Nat) (hi : i < nJS) (hpc : pc + 1 = pc1) (hdg : decode cc pc = .ok (.arraylength, 1)) (kk : WW p l e R s m args below meth c Q nL D A cells slots pc1 lv (.int (nI (lenJS.getD i 0)) :: st) ws) : WW p l e R s m args below meth c Q nL D A cells slots pc lv (.ref (adV i) :: st) ws := by
  subst hpc
  exact fun H locs ls hl hP hD hS => va_tlen C.1 C.2.1 (C.2.2.2.2.2.2.1.1.1 i hi).2.2.2 hS rfl hdg (kk H locs ls hl hP hD hS)
theorem s_baldS (C : Cx p s m args c cc nL Ts own D cI adK adV A) {i : Nat} {j : Int32} (pc1 : Nat) (hi : i < nJS) (hin : vp_in j (lenJS.getD i 0)) (hpc : pc + 1 = pc1) (hdg : decode cc pc = .ok (.baload, 1)) (kk : WW p l e R s m args below meth c Q nL D A cells slots pc1 lv (.int ((bytJS.getD i []).getD j.toNatClampNeg 0) :: st) ws) : WW p l e R s m args below meth c Q nL D A cells slots pc lv (.int j :: .ref (adV i) :: st) ws := by
  subst hpc
  exact fun H locs ls hl hP hD hS => va_tb C.1 C.2.1 (C.2.2.2.2.2.2.1.1.1 i hi).2.2.2 hS hin rfl hdg (kk H locs ls hl hP hD hS)
theorem s_iret (C : Cx p s m args c cc nL Ts own D cI adK adV A) {v : Int32} {w1 : (Nat → Nat) → va_W} {rv : Option Value} (k0 : Nat → Nat) (hr : meth.sig.returnType = some .int) (hlk : meth.locks = false) (hrv : some (.int v) = rv) (hw : ws = w1 k0) (hdg : decode cc pc = .ok (.ireturn, 1)) : WW p l e R s m args below meth c (MQ below (Qq D cI A w1 rv) args s cells slots A) nL D A cells slots pc lv [.int v] ws := by
  subst hrv
  subst hw
  exact fun H locs ls hl hP hD hS => W.iret C.1 C.2.1 hr (fun t ht hW => ⟨⟨rfl, k0, by rw [ht]; exact hP, va_K.moved hW.alike C.2.2.2.2.2.1, hD⟩, hS.F ht⟩) hS.2.2 hdg hlk
theorem s_zret (C : Cx p s m args c cc nL Ts own D cI adK adV A) {v : Int32} {w1 : (Nat → Nat) → va_W} {rv : Option Value} (k0 : Nat → Nat) (hr : meth.sig.returnType = some .boolean) (hlk : meth.locks = false) (hb : v = 0 ∨ v = 1) (hrv : some (.int v) = rv) (hw : ws = w1 k0) (hdg : decode cc pc = .ok (.ireturn, 1)) : WW p l e R s m args below meth c (MQ below (Qq D cI A w1 rv) args s cells slots A) nL D A cells slots pc lv [.int v] ws := by
  subst hrv
  subst hw
  exact fun H locs ls hl hP hD hS => W.zret C.1 C.2.1 hr (by rcases hb with rfl | rfl <;> decide) (fun t ht hW => ⟨⟨rfl, k0, by rw [ht]; exact hP, va_K.moved hW.alike C.2.2.2.2.2.1, hD⟩, hS.F ht⟩) hS.2.2 hdg hlk
theorem s_cret (C : Cx p s m args c cc nL Ts own D cI adK adV A) {v : Int32} {w1 : (Nat → Nat) → va_W} {rv : Option Value} (k0 : Nat → Nat) (hr : meth.sig.returnType = some .char) (hlk : meth.locks = false) (hb : narrow .char (.int v) = .int v) (hrv : some (.int v) = rv) (hw : ws = w1 k0) (hdg : decode cc pc = .ok (.ireturn, 1)) : WW p l e R s m args below meth c (MQ below (Qq D cI A w1 rv) args s cells slots A) nL D A cells slots pc lv [.int v] ws := by
  subst hrv
  subst hw
  exact fun H locs ls hl hP hD hS => W.zret C.1 C.2.1 hr hb (fun t ht hW => ⟨⟨rfl, k0, by rw [ht]; exact hP, va_K.moved hW.alike C.2.2.2.2.2.1, hD⟩, hS.F ht⟩) hS.2.2 hdg hlk
theorem s_bret (C : Cx p s m args c cc nL Ts own D cI adK adV A) {v : Int32} {w1 : (Nat → Nat) → va_W} {rv : Option Value} (k0 : Nat → Nat) (hr : meth.sig.returnType = some .byte) (hlk : meth.locks = false) (hb : narrow .byte (.int v) = .int v) (hrv : some (.int v) = rv) (hw : ws = w1 k0) (hdg : decode cc pc = .ok (.ireturn, 1)) : WW p l e R s m args below meth c (MQ below (Qq D cI A w1 rv) args s cells slots A) nL D A cells slots pc lv [.int v] ws := by
  subst hrv
  subst hw
  exact fun H locs ls hl hP hD hS => W.zret C.1 C.2.1 hr hb (fun t ht hW => ⟨⟨rfl, k0, by rw [ht]; exact hP, va_K.moved hW.alike C.2.2.2.2.2.1, hD⟩, hS.F ht⟩) hS.2.2 hdg hlk
theorem s_lret (C : Cx p s m args c cc nL Ts own D cI adK adV A) {v : Int64} {w1 : (Nat → Nat) → va_W} {rv : Option Value} (k0 : Nat → Nat) (hr : meth.sig.returnType = some .long) (hlk : meth.locks = false) (hrv : some (.long v) = rv) (hw : ws = w1 k0) (hdg : decode cc pc = .ok (.lreturn, 1)) : WW p l e R s m args below meth c (MQ below (Qq D cI A w1 rv) args s cells slots A) nL D A cells slots pc lv [.long v] ws := by
  subst hrv
  subst hw
  exact fun H locs ls hl hP hD hS => W.lret C.1 C.2.1 hr (fun t ht hW => ⟨⟨rfl, k0, by rw [ht]; exact hP, va_K.moved hW.alike C.2.2.2.2.2.1, hD⟩, hS.F ht⟩) hS.2.2 hdg hlk
theorem s_vret (C : Cx p s m args c cc nL Ts own D cI adK adV A)  {w1 : (Nat → Nat) → va_W} {rv : Option Value} (k0 : Nat → Nat) (hr : meth.sig.returnType = none) (hlk : meth.locks = false) (hrv : none = rv) (hw : ws = w1 k0) (hdg : decode cc pc = .ok (.return_, 1)) : WW p l e R s m args below meth c (MQ below (Qq D cI A w1 rv) args s cells slots A) nL D A cells slots pc lv [] ws := by
  subst hrv
  subst hw
  exact fun H locs ls hl hP hD hS => W.vret C.1 C.2.1 hr (fun t ht hW => ⟨⟨rfl, k0, by rw [ht]; exact hP, va_K.moved hW.alike C.2.2.2.2.2.1, hD⟩, hS.F ht⟩) hS.2.2 hdg hlk
theorem s_aret (C : Cx p s m args c cc nL Ts own D cI adK adV A) {a : Nat} {n : String} {w1 : (Nat → Nat) → va_W} {rv : Option Value} (k0 : Nat → Nat) (hr : meth.sig.returnType = some (.object n)) (hlk : meth.locks = false) (hrv : some (.ref a) = rv) (hw : ws = w1 k0) (hdg : decode cc pc = .ok (.areturn, 1)) : WW p l e R s m args below meth c (MQ below (Qq D cI A w1 rv) args s cells slots A) nL D A cells slots pc lv [.ref a] ws := by
  subst hrv
  subst hw
  exact fun H locs ls hl hP hD hS => W.aret C.1 C.2.1 hr (Or.inl ⟨_, rfl⟩) (Or.inr ⟨_, rfl⟩) (fun t ht hW => ⟨⟨rfl, k0, by rw [ht]; exact hP, va_K.moved hW.alike C.2.2.2.2.2.1, hD⟩, hS.F ht⟩) hS.2.2 hdg hlk
/-- behind a call: the callee's cells are changed, the rest is as it was -/
theorem s_back (C : Cx p s m args c cc nL Ts own D cI adK adV A) {wc wr : va_W} {w1 ws2 : (Nat → Nat) → va_W} {rv : Option Value} {mc ms : Nat} {st0 rest : List Value} {a : Array Value} {pc1 : Nat} (isC isR is2 : List Nat) (hC : isC.map (fun i => ws[i]?) = wc.map some) (hRr : isR.map (fun i => ws[i]?) = wr.map some) (hnd : va_nd isR = true) (hdis : ∀ i ∈ isR, i ∉ isC)
    (hn2 : va_nd is2 = true) (h2 : ∀ k, is2.filterMap (fun i => (wr ++ w1 k)[i]?) = ws2 k) (h3 : ∀ k, is2.map (fun i => (wr ++ w1 k)[i]?) = (ws2 k).map some) (hpc : pc + 3 = pc1)
    (hr : ∀ (H : Heap) (locs : List Loc) (ls : Array Slot), lv_has ls nL lv → va_P D vwCl ws H → va_D A ws → va_S A s.heap H locs → va_Run p l e R s m args below meth c H locs cells slots mc ms (F0 m pc ls st0) rest (Qq D cI (va_A wc H.size) w1 rv a) (va_A wc H.size))
    (kk : ∀ k : Nat → Nat, WW p l e R s m args below meth c Q nL D A (cells + mc) (slots + ms) pc1 lv (rv.toList ++ rest) (ws2 k)) : WW p l e R s m args below meth c Q nL D A cells slots pc lv st0 ws := by
  subst hpc
  intro H locs ls hl hP hD hS T hT X
  have hF := va_free hD hS C.2.2.2.2.2.2.2 isC hC
  obtain ⟨v, st₀, t, T', L, h0, X', hL, e1, e2, ⟨⟨hv, k, hP1, -, hD1⟩, hz, hk⟩, stp⟩ := hr H locs ls hl hP hD hS T hT X
  cases hv
  rw [h0] at hz hk
  rw [← e1] at hP1
  have hk1 : ∀ q : Nat, q < H.size → ¬ va_A wc H.size q → T'.heap[q]? = H[q]? := fun q h1 h2 => by rw [e1]; exact hk q h1 h2
  have hS1 : va_S A s.heap T'.heap (locs ++ L) := ⟨Nat.le_trans hS.1 (by rw [e1]; exact hz), fun q h1 h2 => by rw [hk1 q (Nat.lt_of_lt_of_le h1 hS.1) (fun z => h2 (hF q z))]; exact hS.2.1 q h1 h2, fun q hq => by
      rcases List.mem_append.mp hq with h | h
      · exact hS.2.2 q h
      · exact hF _ (hL q h)⟩
  obtain ⟨hP2, hD2⟩ := va_join (wr := wr) (w1 := w1 k) hP hD isC isR hC hRr hnd hdis hk1 hF hP1 hD1
  obtain ⟨t2, a1, b1⟩ := kk k T'.heap (locs ++ L) ls hl (hP2.sub is2 (h2 k)) (hD2.sub is2 hn2 (h3 k)) hS1 T' rfl X'
  exact ⟨t2, stp t2 a1, b1⟩
theorem va_nd_nil : va_nd [] = true := rfl
theorem va_free0 {q : Nat} {H0 H : Heap} {locs : List Loc} (hS : va_S A H0 H locs) (hA : ∀ q, H0.size ≤ q → A q) (h : va_A [] H.size q) : A q := by
  rcases h with ⟨k, e, h⟩ | h
  · simp at h
  · exact hA q (Nat.le_trans hS.1 h)
/-- behind a call that has no cells -/
theorem s_back0 (C : Cx p s m args c cc nL Ts own D cI adK adV A) {rv : Option Value} {st0 rest : List Value} {a : Array Value} {pc1 : Nat} (hpc : pc + 3 = pc1)
    (hr : ∀ (H : Heap) (locs : List Loc) (ls : Array Slot), lv_has ls nL lv → va_P D vwCl ws H → va_D A ws → va_S A s.heap H locs → va_Run p l e R s m args below meth c H locs cells slots 0 0 (F0 m pc ls st0) rest (Qq D cI (va_A [] H.size) (fun _ => []) rv a) (va_A [] H.size))
    (kk : WW p l e R s m args below meth c Q nL D A cells slots pc1 lv (rv.toList ++ rest) ws) : WW p l e R s m args below meth c Q nL D A cells slots pc lv st0 ws := by
  subst hpc
  intro H locs ls hl hP hD hS T hT X
  have hF : ∀ q, va_A [] H.size q → A q := fun q h => va_free0 hS C.2.2.2.2.2.2.2 h
  obtain ⟨v, st₀, t, T', L, h0, X', hL, e1, e2, ⟨⟨hv, k, -, -, -⟩, hz, hk⟩, stp⟩ := hr H locs ls hl hP hD hS T hT X
  cases hv
  rw [h0] at hz hk
  have hk1 : ∀ q : Nat, q < H.size → T'.heap[q]? = H[q]? := fun q h1 => by rw [e1]; exact hk q h1 (fun z => by rcases z with ⟨k, e, h⟩ | h; (simp at h); omega)
  have hS1 : va_S A s.heap T'.heap (locs ++ L) := ⟨Nat.le_trans hS.1 (by rw [e1]; exact hz), fun q h1 h2 => by rw [hk1 q (Nat.lt_of_lt_of_le h1 hS.1)]; exact hS.2.1 q h1 h2, fun q hq => by
      rcases List.mem_append.mp hq with h | h
      · exact hS.2.2 q h
      · exact hF _ (hL q h)⟩
  have hP2 : va_P D vwCl ws T'.heap := fun k q hq => (hP k q hq).kept (hk1 q.1 (hP k q hq).lt)
  obtain ⟨t2, a1, b1⟩ := kk T'.heap (locs ++ L) ls hl hP2 hD hS1 T' rfl X'
  exact ⟨t2, stp t2 a1, b1⟩

theorem s_pre (C : Cx p s m args c cc nL Ts own D cI adK adV A) {wc : va_W} {H : Heap} {locs : List Loc} (isC : List Nat) (hn : va_nd isC = true) (hC : isC.map (fun i => ws[i]?) = wc.map some) (hP : va_P D vwCl ws H) (hD : va_D A ws) (hS : va_S A s.heap H locs) (U : State) (hU : U.heap = H) (hW : s.WarmedH U.vm) : Pq D cI adK adV wc H.size U := by
  have hC2 : isC.filterMap (fun i => ws[i]?) = wc := by
    have h := congrArg (List.filterMap id) hC
    rw [List.filterMap_map, List.filterMap_map] at h
    simpa [Function.comp_def] using h
  have hF := va_free hD hS C.2.2.2.2.2.2.2 isC hC
  refine ⟨by rw [hU], by rw [hU]; exact hP.sub isC hC2, va_K.moved hW.alike C.2.2.2.2.2.1, (hD.sub isC hn hC).weaken (fun _ _ _ _ => trivial), ?_⟩
  rw [hU]
  exact ((C.2.2.2.2.2.2.1.kept hS.2.1).narrow hF).moved hW

theorem s_callV (C : Cx p s m args c cc nL Ts own D cI adK adV A) {y : MethodName} {C1 : String} {bytes : ByteArray} {maxL mc ms index ci q0 : Nat} {ret : Option FieldType} {wsy ws' : List Cond} {rm : Room} {As rest st0 : List Value} {b : Nat} {T : u_T} {N : Nat} {fs : List Value} {wc wr : va_W} {w1 ws2 : (Nat → Nat) → va_W} {rv : Option Value} (pc1 : Nat) (hM : Ct l D cI adK adV y wsy rm mc ms (.ref b :: As) wc w1 rv) (hG : GoodIn Ts (wsV own index C1 y wsy)) (hd : y.cls = C1 ∧ y.cls ≠ "java/lang/invoke/MethodHandle" ∧ y.cls ≠ "java/lang/invoke/VarHandle" ∧ (parseMethodDescriptor y.desc).map (fun d => d.parameters.length) = some As.length) (hw : wsy = Cond.code y bytes maxL ret :: ws') (hrm : rm.cells = mc ∧ rm.slots = ms) (hR : rm.frames + 1 ≤ R.frames ∧ 8 + (maxL + 11) + rm.locals ≤ R.locals) (hfit : cells + mc ≤ R.cells ∧ slots + ms ≤ R.slots)
    (hci : vwCl[ci]? = some (C1, T, N)) (hq0 : ws[q0]? = some (b, .inr (ci, fs))) (hst : As.reverse ++ .ref b :: rest = st0) (hrest : (rest.map fun v => v.category).sum ≤ 8) (isC isR is2 : List Nat) (hnC : va_nd isC = true) (hC : isC.map (fun i => ws[i]?) = wc.map some) (hRr : isR.map (fun i => ws[i]?) = wr.map some) (hnd : va_nd isR = true) (hdis : ∀ i ∈ isR, i ∉ isC)
    (hn2 : va_nd is2 = true) (h2 : ∀ k, is2.filterMap (fun i => (wr ++ w1 k)[i]?) = ws2 k) (h3 : ∀ k, is2.map (fun i => (wr ++ w1 k)[i]?) = (ws2 k).map some) (hpc : pc + 3 = pc1) (hdg : decode cc pc = .ok (.invokevirtual index, 3))
    (kk : ∀ k : Nat → Nat, WW p l e R s m args below meth c Q nL D A (cells + mc) (slots + ms) pc1 lv (rv.toList ++ rest) (ws2 k)) : WW p l e R s m args below meth c Q nL D A cells slots pc lv st0 ws := by
  subst hst
  refine s_back (a := (Value.ref b :: As).toArray) C isC isR is2 hC hRr hnd hdis hn2 h2 h3 hpc (fun H locs ls hl hP hD hS => ?_) kk
  exact va_runV (C := C1) ⟨C.1, C.2.1, C.2.2.1, C.2.2.2.1, C.2.2.2.2.1⟩ (hM H.size) (cwV As.length C.2.2.2.2.1 hG hw hrm.1 hrm.2 hd hR) ⟨Pq.blind, va_recv C.2.2.2.2.2.1 hP hci hq0, fun U hU hW => ⟨rfl, s_pre C isC hnC hC hP hD hS U hU hW⟩⟩ rfl rfl hl.1 rfl (lv_room hrest) hdg hfit

theorem s_callS (C : Cx p s m args c cc nL Ts own D cI adK adV A) {y : MethodName} {C1 : String} {bytes : ByteArray} {maxL mc ms index : Nat} {ret : Option FieldType} {wsy ws' : List Cond} {rm : Room} {As rest st0 : List Value} {wc wr : va_W} {w1 ws2 : (Nat → Nat) → va_W} {rv : Option Value} (pc1 : Nat) (hM : Ct l D cI adK adV y wsy rm mc ms As wc w1 rv) (hG : GoodIn Ts (va_wsS own index y wsy)) (hd : y.cls ≠ "java/lang/invoke/MethodHandle" ∧ y.cls ≠ "java/lang/invoke/VarHandle" ∧ (parseMethodDescriptor y.desc).map (fun d => d.parameters.length) = some As.length) (hw : wsy = Cond.code y bytes maxL ret :: ws') (hrm : rm.cells = mc ∧ rm.slots = ms) (hR : rm.frames + 1 ≤ R.frames ∧ 8 + (maxL + 11) + rm.locals ≤ R.locals) (hfit : cells + mc ≤ R.cells ∧ slots + ms ≤ R.slots)
    (hst : As.reverse ++ rest = st0) (hrest : (rest.map fun v => v.category).sum ≤ 8) (isC isR is2 : List Nat) (hnC : va_nd isC = true) (hC : isC.map (fun i => ws[i]?) = wc.map some) (hRr : isR.map (fun i => ws[i]?) = wr.map some) (hnd : va_nd isR = true) (hdis : ∀ i ∈ isR, i ∉ isC)
    (hn2 : va_nd is2 = true) (h2 : ∀ k, is2.filterMap (fun i => (wr ++ w1 k)[i]?) = ws2 k) (h3 : ∀ k, is2.map (fun i => (wr ++ w1 k)[i]?) = (ws2 k).map some) (hpc : pc + 3 = pc1) (hdg : decode cc pc = .ok (.invokestatic index, 3))
    (kk : ∀ k : Nat → Nat, WW p l e R s m args below meth c Q nL D A (cells + mc) (slots + ms) pc1 lv (rv.toList ++ rest) (ws2 k)) : WW p l e R s m args below meth c Q nL D A cells slots pc lv st0 ws := by
  subst hst
  refine s_back (a := As.toArray) C isC isR is2 hC hRr hnd hdis hn2 h2 h3 hpc (fun H locs ls hl hP hD hS => ?_) kk
  exact va_runS ⟨C.1, C.2.1, C.2.2.1, C.2.2.2.1, C.2.2.2.2.1⟩ (hM H.size) (va_cwS As.length C.2.2.2.2.1 hG hw hrm.1 hrm.2 hd hR) ⟨Pq.blind, fun U hU hW => ⟨rfl, s_pre C isC hnC hC hP hD hS U hU hW⟩⟩ rfl rfl hl.1 rfl (lv_room hrest) hdg hfit

theorem s_callI (C : Cx p s m args c cc nL Ts own D cI adK adV A) {y : MethodName} {C1 : String} {bytes : ByteArray} {maxL mc ms index : Nat} {ret : Option FieldType} {wsy ws' : List Cond} {rm : Room} {As rest st0 : List Value} {b : Nat} {wc wr : va_W} {w1 ws2 : (Nat → Nat) → va_W} {rv : Option Value} (pc1 : Nat) (hM : Ct l D cI adK adV y wsy rm mc ms (.ref b :: As) wc w1 rv) (hG : GoodIn Ts wsy) (hlink : Cond.methodLink own index y ∈ Ts) (hini : Cond.initialized y.cls ∈ Ts) (hinst : Cond.instanceMethod y ∈ Ts) (hnm : y.name = "<init>") (hret : ret = none) (hd : y.cls ≠ "java/lang/invoke/MethodHandle" ∧ y.cls ≠ "java/lang/invoke/VarHandle" ∧ (parseMethodDescriptor y.desc).map (fun d => d.parameters.length) = some As.length) (hw : wsy = Cond.code y bytes maxL ret :: ws') (hrm : rm.cells = mc ∧ rm.slots = ms) (hR : rm.frames + 1 ≤ R.frames ∧ 8 + (maxL + 11) + rm.locals ≤ R.locals) (hfit : cells + mc ≤ R.cells ∧ slots + ms ≤ R.slots)
    (hst : As.reverse ++ .ref b :: rest = st0) (hrest : (rest.map fun v => v.category).sum ≤ 8) (isC isR is2 : List Nat) (hnC : va_nd isC = true) (hC : isC.map (fun i => ws[i]?) = wc.map some) (hRr : isR.map (fun i => ws[i]?) = wr.map some) (hnd : va_nd isR = true) (hdis : ∀ i ∈ isR, i ∉ isC)
    (hn2 : va_nd is2 = true) (h2 : ∀ k, is2.filterMap (fun i => (wr ++ w1 k)[i]?) = ws2 k) (h3 : ∀ k, is2.map (fun i => (wr ++ w1 k)[i]?) = (ws2 k).map some) (hpc : pc + 3 = pc1) (hdg : decode cc pc = .ok (.invokespecial index, 3))
    (kk : ∀ k : Nat → Nat, WW p l e R s m args below meth c Q nL D A (cells + mc) (slots + ms) pc1 lv (rv.toList ++ rest) (ws2 k)) : WW p l e R s m args below meth c Q nL D A cells slots pc lv st0 ws := by
  subst hst
  refine s_back (a := (Value.ref b :: As).toArray) C isC isR is2 hC hRr hnd hdis hn2 h2 h3 hpc (fun H locs ls hl hP hD hS => ?_) kk
  exact va_runI ⟨C.1, C.2.1, C.2.2.1, C.2.2.2.1, C.2.2.2.2.1⟩ (hM H.size) (⟨callB_of As.length C.2.2.2.2.1 hG (by rw [hw, hret]) hrm.1 hrm.2 (C.2.2.2.2.1 _ hini) (C.2.2.2.2.1 _ hlink) hd hR, hnm, C.2.2.2.2.1 _ hinst⟩) ⟨Pq.blind, fun U hU hW => ⟨rfl, s_pre C isC hnC hC hP hD hS U hU hW⟩⟩ rfl rfl hl.1 rfl (lv_room hrest) hdg hfit

theorem s_callS0 (C : Cx p s m args c cc nL Ts own D cI adK adV A) {y : MethodName} {host : String} {bytes : ByteArray} {maxL index : Nat} {ret : Option FieldType} {wsy ws' : List Cond} {rm : Room} {As rest st0 : List Value} {rv : Option Value} (pc1 : Nat) (hM : Ct l D cI adK adV y wsy rm 0 0 As [] (fun _ => []) rv) (hG : GoodIn Ts (va_wsS own index y wsy)) (hd : y.cls ≠ "java/lang/invoke/MethodHandle" ∧ y.cls ≠ "java/lang/invoke/VarHandle" ∧ (parseMethodDescriptor y.desc).map (fun d => d.parameters.length) = some As.length) (hw : wsy = Cond.code y bytes maxL ret :: ws') (hrm : rm.cells = 0 ∧ rm.slots = 0) (hR : rm.frames + 1 ≤ R.frames ∧ 8 + (maxL + 11) + rm.locals ≤ R.locals) (hfit : cells + 0 ≤ R.cells ∧ slots + 0 ≤ R.slots)
    (hst : As.reverse ++ rest = st0) (hrest : (rest.map fun v => v.category).sum ≤ 8) (hpc : pc + 3 = pc1) (hdg : decode cc pc = .ok (.invokestatic index, 3)) (kk : WW p l e R s m args below meth c Q nL D A cells slots pc1 lv (rv.toList ++ rest) ws) : WW p l e R s m args below meth c Q nL D A cells slots pc lv st0 ws := by
  subst hst
  refine s_back0 (a := As.toArray) C hpc (fun H locs ls hl hP hD hS => ?_) kk
  exact va_runS ⟨C.1, C.2.1, C.2.2.1, C.2.2.2.1, C.2.2.2.2.1⟩ (hM H.size) (va_cwS As.length C.2.2.2.2.1 hG hw hrm.1 hrm.2 hd hR) ⟨Pq.blind, fun U hU hW => ⟨rfl, s_pre C [] rfl rfl hP hD hS U hU hW⟩⟩ rfl rfl hl.1 rfl (lv_room hrest) hdg hfit

theorem s_callN0 (C : Cx p s m args c cc nL Ts own D cI adK adV A) {y : MethodName} {host : String} {bytes : ByteArray} {maxL index : Nat} {ret : Option FieldType} {wsy ws' : List Cond} {rm : Room} {As rest st0 : List Value} {rv : Option Value} (pc1 : Nat) (hM : Ct l D cI adK adV y wsy rm 0 0 As [] (fun _ => []) rv) (hG : GoodIn Ts wsy) (hnest : (own, index, y, host) ∈ nests) (hini : Cond.initialized y.cls ∈ Ts) (hsta : Cond.static y ∈ Ts) (hd : y.cls ≠ "java/lang/invoke/MethodHandle" ∧ y.cls ≠ "java/lang/invoke/VarHandle" ∧ (parseMethodDescriptor y.desc).map (fun d => d.parameters.length) = some As.length) (hw : wsy = Cond.code y bytes maxL ret :: ws') (hrm : rm.cells = 0 ∧ rm.slots = 0) (hR : rm.frames + 1 ≤ R.frames ∧ 8 + (maxL + 11) + rm.locals ≤ R.locals) (hfit : cells + 0 ≤ R.cells ∧ slots + 0 ≤ R.slots)
    (hst : As.reverse ++ rest = st0) (hrest : (rest.map fun v => v.category).sum ≤ 8) (hpc : pc + 3 = pc1) (hdg : decode cc pc = .ok (.invokestatic index, 3)) (kk : WW p l e R s m args below meth c Q nL D A cells slots pc1 lv (rv.toList ++ rest) ws) : WW p l e R s m args below meth c Q nL D A cells slots pc lv st0 ws := by
  subst hst
  refine s_back0 (a := As.toArray) C hpc (fun H locs ls hl hP hD hS => ?_) kk
  exact va_runSN (host := host) ⟨C.1, C.2.1, C.2.2.1, C.2.2.2.1, C.2.2.2.2.1⟩ (hM H.size) (⟨va_cnB As.length C.2.2.2.2.1 hG hw hrm.1 hrm.2 (C.2.2.2.2.2.2.1.2.2.1 _ hnest) (C.2.2.2.2.1 _ hini) hd hR, C.2.2.2.2.1 _ hsta, trivial⟩) ⟨Pq.blind, fun U hU hW => ⟨rfl, s_pre C [] rfl rfl hP hD hS U hU hW⟩⟩ rfl rfl hl.1 rfl (lv_room hrest) hdg hfit

/-- behind a call whose cells are all that there are -/
theorem s_backW (C : Cx p s m args c cc nL Ts own D cI adK adV A) {w1 : (Nat → Nat) → va_W} {rv : Option Value} {mc ms : Nat} {st0 rest : List Value} {a : Array Value} {pc1 : Nat} (hpc : pc + 3 = pc1)
    (hr : ∀ (H : Heap) (locs : List Loc) (ls : Array Slot), lv_has ls nL lv → va_P D vwCl ws H → va_D A ws → va_S A s.heap H locs → va_Run p l e R s m args below meth c H locs cells slots mc ms (F0 m pc ls st0) rest (Qq D cI (va_A ws H.size) w1 rv a) (va_A ws H.size))
    (kk : ∀ k : Nat → Nat, WW p l e R s m args below meth c Q nL D A (cells + mc) (slots + ms) pc1 lv (rv.toList ++ rest) (w1 k)) : WW p l e R s m args below meth c Q nL D A cells slots pc lv st0 ws := by
  subst hpc
  intro H locs ls hl hP hD hS T hT X
  have hF : ∀ q, va_A ws H.size q → A q := fun q h => by
    rcases h with ⟨k, e, h⟩ | h
    · exact hD.2 k _ h
    · exact C.2.2.2.2.2.2.2 q (Nat.le_trans hS.1 h)
  obtain ⟨v, st₀, t, T', L, h0, X', hL, e1, e2, ⟨⟨hv, k, hP1, -, hD1⟩, hz, hk⟩, stp⟩ := hr H locs ls hl hP hD hS T hT X
  cases hv
  rw [h0] at hz hk
  rw [← e1] at hP1
  have hk1 : ∀ q : Nat, q < H.size → ¬ va_A ws H.size q → T'.heap[q]? = H[q]? := fun q h1 h2 => by rw [e1]; exact hk q h1 h2
  have hS1 : va_S A s.heap T'.heap (locs ++ L) := ⟨Nat.le_trans hS.1 (by rw [e1]; exact hz), fun q h1 h2 => by rw [hk1 q (Nat.lt_of_lt_of_le h1 hS.1) (fun z => h2 (hF q z))]; exact hS.2.1 q h1 h2, fun q hq => by
      rcases List.mem_append.mp hq with h | h
      · exact hS.2.2 q h
      · exact hF _ (hL q h)⟩
  obtain ⟨t2, a1, b1⟩ := kk k T'.heap (locs ++ L) ls hl hP1 (hD1.weaken (fun _ q _ h => hF _ h)) hS1 T' rfl X'
  exact ⟨t2, stp t2 a1, b1⟩
theorem s_preW (C : Cx p s m args c cc nL Ts own D cI adK adV A) {H : Heap} {locs : List Loc} (hP : va_P D vwCl ws H) (hD : va_D A ws) (hS : va_S A s.heap H locs) (U : State) (hU : U.heap = H) (hW : s.WarmedH U.vm) : Pq D cI adK adV ws H.size U := by
  have hF : ∀ q, va_A ws H.size q → A q := fun q h => by
    rcases h with ⟨k, e, h⟩ | h
    · exact hD.2 k _ h
    · exact C.2.2.2.2.2.2.2 q (Nat.le_trans hS.1 h)
  refine ⟨by rw [hU], by rw [hU]; exact hP, va_K.moved hW.alike C.2.2.2.2.2.1, hD.weaken (fun _ _ _ _ => trivial), ?_⟩
  rw [hU]
  exact ((C.2.2.2.2.2.2.1.kept hS.2.1).narrow hF).moved hW
theorem s_callW (C : Cx p s m args c cc nL Ts own D cI adK adV A) {y : MethodName} {C1 : String} {bytes : ByteArray} {maxL mc ms index ci q0 : Nat} {ret : Option FieldType} {wsy ws' : List Cond} {rm : Room} {As rest st0 : List Value} {b : Nat} {T : u_T} {N : Nat} {fs : List Value} {w1 : (Nat → Nat) → va_W} {rv : Option Value} (pc1 : Nat) (hM : Ct l D cI adK adV y wsy rm mc ms (.ref b :: As) ws w1 rv) (hG : GoodIn Ts (wsV own index C1 y wsy)) (hd : y.cls = C1 ∧ y.cls ≠ "java/lang/invoke/MethodHandle" ∧ y.cls ≠ "java/lang/invoke/VarHandle" ∧ (parseMethodDescriptor y.desc).map (fun d => d.parameters.length) = some As.length) (hw : wsy = Cond.code y bytes maxL ret :: ws') (hrm : rm.cells = mc ∧ rm.slots = ms) (hR : rm.frames + 1 ≤ R.frames ∧ 8 + (maxL + 11) + rm.locals ≤ R.locals) (hfit : cells + mc ≤ R.cells ∧ slots + ms ≤ R.slots)
    (hci : vwCl[ci]? = some (C1, T, N)) (hq0 : ws[q0]? = some (b, .inr (ci, fs))) (hst : As.reverse ++ .ref b :: rest = st0) (hrest : (rest.map fun v => v.category).sum ≤ 8) (hpc : pc + 3 = pc1) (hdg : decode cc pc = .ok (.invokevirtual index, 3))
    (kk : ∀ k : Nat → Nat, WW p l e R s m args below meth c Q nL D A (cells + mc) (slots + ms) pc1 lv (rv.toList ++ rest) (w1 k)) : WW p l e R s m args below meth c Q nL D A cells slots pc lv st0 ws := by
  subst hst
  refine s_backW (a := (Value.ref b :: As).toArray) C hpc (fun H locs ls hl hP hD hS => ?_) kk
  exact va_runV (C := C1) ⟨C.1, C.2.1, C.2.2.1, C.2.2.2.1, C.2.2.2.2.1⟩ (hM H.size) (cwV As.length C.2.2.2.2.1 hG hw hrm.1 hrm.2 hd hR) ⟨Pq.blind, va_recv C.2.2.2.2.2.1 hP hci hq0, fun U hU hW => ⟨rfl, s_preW C hP hD hS U hU hW⟩⟩ rfl rfl hl.1 rfl (lv_room hrest) hdg hfit
theorem s_mmax (C : Cx p s m args c cc nL Ts own D cI adK adV A) {index : Nat} {x y : Int32} (pc1 : Nat) (hlink : Cond.methodLink own index Lib.Math.max.name ∈ Ts) (hstat : Cond.static Lib.Math.max.name ∈ Ts) (hini : Cond.initialized "java/lang/Math" ∈ Ts) (hcode : Cond.code Lib.Math.max.name Lib.Math.max.code 2 (some .int) ∈ Ts) (hR : 1 ≤ R.frames ∧ (st.map fun v => v.category).sum + 13 ≤ R.locals ∧ cells ≤ R.cells ∧ slots ≤ R.slots) (hpc : pc + 3 = pc1) (hdg : decode cc pc = .ok (.invokestatic index, 3)) (kk : WW p l e R s m args below meth c Q nL D A cells slots pc1 lv (.int (jmax x y) :: st) ws) : WW p l e R s m args below meth c Q nL D A cells slots pc lv (.int y :: .int x :: st) ws := by
  subst hpc
  exact fun H locs ls hl hP hD hS => va_mmax C.1 C.2.1 (C.2.2.1.trans hl.1.symm) C.2.2.2.1 (C.2.2.2.2.1 _ hlink) (C.2.2.2.2.1 _ hstat) (C.2.2.2.2.1 _ hini) (C.2.2.2.2.1 _ hcode) hR.1 hR.2.1 hR.2.2.1 hR.2.2.2 hdg (kk H locs ls hl hP hD hS)
theorem s_mabs (C : Cx p s m args c cc nL Ts own D cI adK adV A) {index : Nat} {x : Int32} (pc1 : Nat) (hlink : Cond.methodLink own index Lib.Math.abs.name ∈ Ts) (hstat : Cond.static Lib.Math.abs.name ∈ Ts) (hini : Cond.initialized "java/lang/Math" ∈ Ts) (hcode : Cond.code Lib.Math.abs.name Lib.Math.abs.code 1 (some .int) ∈ Ts) (hR : 1 ≤ R.frames ∧ (st.map fun v => v.category).sum + 13 ≤ R.locals ∧ cells ≤ R.cells ∧ slots ≤ R.slots) (hpc : pc + 3 = pc1) (hdg : decode cc pc = .ok (.invokestatic index, 3)) (kk : WW p l e R s m args below meth c Q nL D A cells slots pc1 lv (.int (jabs x) :: st) ws) : WW p l e R s m args below meth c Q nL D A cells slots pc lv (.int x :: st) ws := by
  subst hpc
  exact fun H locs ls hl hP hD hS => va_mabs C.1 C.2.1 (C.2.2.1.trans hl.1.symm) C.2.2.2.1 (C.2.2.2.2.1 _ hlink) (C.2.2.2.2.1 _ hstat) (C.2.2.2.2.1 _ hini) (C.2.2.2.2.1 _ hcode) hR.1 (by first | exact hR.2.1 | (have h := hR.2.1; omega)) hR.2.2.1 hR.2.2.2 hdg (kk H locs ls hl hP hD hS)
theorem s_copyi (C : Cx p s m args c cc nL Ts own D cI adK adV A) {index a a0 : Nat} {n0 n1 : Nat} {f g : Nat → Int32} {sp dp n : Int32} {ws1 : va_W} (pc1 q0 q1 : Nat) (hlink : Cond.methodLink own index arraycopyName ∈ Ts) (hnat : Cond.native arraycopyName ∈ Ts) (hstat : Cond.static arraycopyName ∈ Ts) (hini : Cond.initialized "java/lang/System" ∈ Ts) (ha0 : ws[q0]? = some (a0, .inl (cI, n0, .inl f))) (ha1 : ws[q1]? = some (a, .inl (cI, n1, .inl g))) (h1 : ¬ sp < 0) (h2 : ¬ dp < 0) (h3 : ¬ n < 0) (h4 : sp.toNatClampNeg + n.toNatClampNeg ≤ n0) (h5 : dp.toNatClampNeg + n.toNatClampNeg ≤ n1) (hR : 1 ≤ R.frames ∧ (st.map fun v => v.category).sum + (nativeFrameWords "java/lang/System" "arraycopy" 5 + 11) ≤ R.locals) (hws : ws.set q1 (a, .inl (cI, n1, .inl (va_cpy f g sp.toNatClampNeg dp.toNatClampNeg n.toNatClampNeg))) = ws1) (hpc : pc + 3 = pc1) (hdg : decode cc pc = .ok (.invokestatic index, 3)) (kk : WW p l e R s m args below meth c Q nL D A cells slots pc1 lv st ws1) : WW p l e R s m args below meth c Q nL D A cells slots pc lv (.int n :: .int dp :: .ref a :: .int sp :: .ref a0 :: st) ws := by
  subst hpc
  subst hws
  exact fun H locs ls hl hP hD hS => va_copyi C.1 C.2.1 (C.2.2.1.trans hl.1.symm) C.2.2.2.1 (C.2.2.2.2.1 _ hlink) (C.2.2.2.2.1 _ hnat) (C.2.2.2.2.1 _ hstat) (C.2.2.2.2.1 _ hini) C.2.2.2.2.2.1 hP hD hS q0 q1 0 0 ha0 ha1 rfl rfl rfl h1 h2 h3 h4 h5 (fun _ _ => rfl) hR.1 hR.2 hdg (fun H1 locs1 hP1 hD1 hS1 => kk H1 locs1 ls hl hP1 hD1 hS1)
theorem s_callT (C : Cx p s m args c cc nL Ts own D cI adK adV A) {y : MethodName} {bytes : ByteArray} {maxL index i : Nat} {ret : Option FieldType} {wsy ws' : List Cond} {rm : Room} {As rest st0 : List Value} {rv : Option Value} (pc1 : Nat) (hi : i < nJS) (hM : Ct l D cI adK adV y wsy rm 0 0 (.ref (adK i) :: As) [] (fun _ => []) rv) (hG : GoodIn Ts (wsV own index RJ0 y wsy)) (hd : y.cls = RJ0 ∧ y.cls ≠ "java/lang/invoke/MethodHandle" ∧ y.cls ≠ "java/lang/invoke/VarHandle" ∧ (parseMethodDescriptor y.desc).map (fun d => d.parameters.length) = some As.length) (hw : wsy = Cond.code y bytes maxL ret :: ws') (hrm : rm.cells = 0 ∧ rm.slots = 0) (hR : rm.frames + 1 ≤ R.frames ∧ 8 + (maxL + 11) + rm.locals ≤ R.locals) (hfit : cells + 0 ≤ R.cells ∧ slots + 0 ≤ R.slots)
    (hst : As.reverse ++ .ref (adK i) :: rest = st0) (hrest : (rest.map fun v => v.category).sum ≤ 8) (hpc : pc + 3 = pc1) (hdg : decode cc pc = .ok (.invokevirtual index, 3)) (kk : WW p l e R s m args below meth c Q nL D A cells slots pc1 lv (rv.toList ++ rest) ws) : WW p l e R s m args below meth c Q nL D A cells slots pc lv st0 ws := by
  subst hst
  refine s_back0 (a := (Value.ref (adK i) :: As).toArray) C hpc (fun H locs ls hl hP hD hS => ?_) kk
  exact va_runV (C := RJ0) ⟨C.1, C.2.1, C.2.2.1, C.2.2.2.1, C.2.2.2.2.1⟩ (hM H.size) (cwV As.length C.2.2.2.2.1 hG hw hrm.1 hrm.2 hd hR) ⟨Pq.blind, va_Orecv (C.2.2.2.2.2.2.1.1.1 i hi).1 hS, fun U hU hW => ⟨rfl, s_pre C [] rfl rfl hP hD hS U hU hW⟩⟩ rfl rfl hl.1 rfl (lv_room hrest) hdg hfit
theorem s_mmin (C : Cx p s m args c cc nL Ts own D cI adK adV A) {index : Nat} {x y : Int32} (pc1 : Nat) (hlink : Cond.methodLink own index Lib.Math.min.name ∈ Ts) (hstat : Cond.static Lib.Math.min.name ∈ Ts) (hini : Cond.initialized "java/lang/Math" ∈ Ts) (hcode : Cond.code Lib.Math.min.name Lib.Math.min.code 2 (some .int) ∈ Ts) (hR : 1 ≤ R.frames ∧ (st.map fun v => v.category).sum + 13 ≤ R.locals ∧ cells ≤ R.cells ∧ slots ≤ R.slots) (hpc : pc + 3 = pc1) (hdg : decode cc pc = .ok (.invokestatic index, 3)) (kk : WW p l e R s m args below meth c Q nL D A cells slots pc1 lv (.int (jmin x y) :: st) ws) : WW p l e R s m args below meth c Q nL D A cells slots pc lv (.int y :: .int x :: st) ws := by
  subst hpc
  exact fun H locs ls hl hP hD hS => va_mmin C.1 C.2.1 (C.2.2.1.trans hl.1.symm) C.2.2.2.1 (C.2.2.2.2.1 _ hlink) (C.2.2.2.2.1 _ hstat) (C.2.2.2.2.1 _ hini) (C.2.2.2.2.1 _ hcode) hR.1 hR.2.1 hR.2.2.1 hR.2.2.2 hdg (kk H locs ls hl hP hD hS)
/-- a loop: by its fuel -/
theorem s_loop {α β : Type} {o : β} (F : Nat → α → Option β) (h : Nat) (lv1 : α → List (Nat × Value)) (ws1 : α → va_W) (N : Nat) (v0 : α) (hf : F N v0 = some o) (h0 : ∀ v, F 0 v = some o → False) (hs : ∀ (n : Nat) (ih : ∀ v, F n v = some o → WW p l e R s m args below meth c Q nL D A cells slots h (lv1 v) [] (ws1 v)) (v : α) (hf : F (n + 1) v = some o), WW p l e R s m args below meth c Q nL D A cells slots h (lv1 v) [] (ws1 v)) : WW p l e R s m args below meth c Q nL D A cells slots h (lv1 v0) [] (ws1 v0) := by
  have key : ∀ n v, F n v = some o → WW p l e R s m args below meth c Q nL D A cells slots h (lv1 v) [] (ws1 v) := by
    intro n
    induction n with
    | zero => intro v hf; exact (h0 v hf).elim
    | succ n ih => intro v hf; exact hs n ih v hf
  exact key N v0 hf
/-- what comes behind a loop, walked once -/
theorem s_kont {γ β : Type} {o : β} (G : (γ → Option β) → Prop) {k : γ → Option β} (J : Nat) (lv1 : γ → List (Nat × Value)) (st1 : γ → List Value) (ws1 : γ → va_W) (hf : G k) (h1 : ∀ v, k v = some o → WW p l e R s m args below meth c Q nL D A cells slots J (lv1 v) (st1 v) (ws1 v)) (h2 : ∀ (k : γ → Option β) (hk : ∀ v, k v = some o → WW p l e R s m args below meth c Q nL D A cells slots J (lv1 v) (st1 v) (ws1 v)) (hf : G k), WW p l e R s m args below meth c Q nL D A cells slots pc lv st ws) : WW p l e R s m args below meth c Q nL D A cells slots pc lv st ws := h2 k h1 hf
theorem s_loopC {α β : Type} {o : β} (F : Nat → α → Option β) (h : Nat) (lv1 : α → (Nat → Nat) → List (Nat × Value)) (ws1 : α → (Nat → Nat) → va_W) (N : Nat) (v0 : α) (kc0 : Nat → Nat) (hf : F N v0 = some o) (h0 : ∀ v, F 0 v = some o → False) (hs : ∀ (n : Nat) (ih : ∀ v kc, F n v = some o → WW p l e R s m args below meth c Q nL D A cells slots h (lv1 v kc) [] (ws1 v kc)) (v : α) (kc : Nat → Nat) (hf : F (n + 1) v = some o), WW p l e R s m args below meth c Q nL D A cells slots h (lv1 v kc) [] (ws1 v kc)) : WW p l e R s m args below meth c Q nL D A cells slots h (lv1 v0 kc0) [] (ws1 v0 kc0) := by
  have key : ∀ n v kc, F n v = some o → WW p l e R s m args below meth c Q nL D A cells slots h (lv1 v kc) [] (ws1 v kc) := by
    intro n
    induction n with
    | zero => intro v kc hf; exact (h0 v hf).elim
    | succ n ih => intro v kc hf; exact hs n ih v kc hf
  exact key N v0 kc0 hf
theorem s_kontC {γ β : Type} {o : β} (G : (γ → Option β) → Prop) {k : γ → Option β} (J : Nat) (lv1 : γ → (Nat → Nat) → List (Nat × Value)) (st1 : γ → (Nat → Nat) → List Value) (ws1 : γ → (Nat → Nat) → va_W) (hf : G k) (h1 : ∀ v kc, k v = some o → WW p l e R s m args below meth c Q nL D A cells slots J (lv1 v kc) (st1 v kc) (ws1 v kc)) (h2 : ∀ (k : γ → Option β) (hk : ∀ v kc, k v = some o → WW p l e R s m args below meth c Q nL D A cells slots J (lv1 v kc) (st1 v kc) (ws1 v kc)) (hf : G k), WW p l e R s m args below meth c Q nL D A cells slots pc lv st ws) : WW p l e R s m args below meth c Q nL D A cells slots pc lv st ws := h2 k h1 hf
theorem s_jn {α β : Type} {x : α} {k : α → β} {o : β} (J : Nat) (lv1 : α → List (Nat × Value)) (st1 : α → List Value) (ws1 : α → va_W) (hf : jn x k = o) (h1 : ∀ v, k v = o → WW p l e R s m args below meth c Q nL D A cells slots J (lv1 v) (st1 v) (ws1 v)) (h2 : ∀ (hj : ∀ v, k v = o → WW p l e R s m args below meth c Q nL D A cells slots J (lv1 v) (st1 v) (ws1 v)) (hf : jn x k = o), WW p l e R s m args below meth c Q nL D A cells slots pc lv st ws) : WW p l e R s m args below meth c Q nL D A cells slots pc lv st ws := h2 h1 hf
theorem s_bn {α β : Type} {x : Option α} {k : α → Option β} {o : Option β} (J : Nat) (lv1 : α → List (Nat × Value)) (st1 : α → List Value) (ws1 : α → va_W) (hf : bn x k = o) (h1 : ∀ v, k v = o → WW p l e R s m args below meth c Q nL D A cells slots J (lv1 v) (st1 v) (ws1 v)) (h2 : ∀ (hj : ∀ v, k v = o → WW p l e R s m args below meth c Q nL D A cells slots J (lv1 v) (st1 v) (ws1 v)) (hf : bn x k = o), WW p l e R s m args below meth c Q nL D A cells slots pc lv st ws) : WW p l e R s m args below meth c Q nL D A cells slots pc lv st ws := h2 h1 hf
theorem jn_i {α β : Type} {a : α} {k : α → β} {o : β} (h : jn a k = o) : k a = o := h
theorem bn_i {α β : Type} {a : α} {k : α → Option β} {o : Option β} (h : bn (some a) k = o) : k a = o := h
theorem jn_jn {α β γ : Type} {a : α} {k : α → β} {k2 : β → γ} {o : γ} (h : jn (jn a k) k2 = o) : jn a (fun v => jn (k v) k2) = o := h
theorem bn_jn {α β γ : Type} {a : α} {k : α → Option β} {k2 : β → Option γ} {o : Option γ} (h : bn (jn a k) k2 = o) : jn a (fun v => bn (k v) k2) = o := h
theorem bn_bn {α β γ : Type} {x : Option α} {k : α → Option β} {k2 : β → Option γ} {o : Option γ} (h : bn (bn x k) k2 = o) : bn x (fun v => bn (k v) k2) = o := by
  cases x with
  | none => exact h
  | some a => exact h
end FR
