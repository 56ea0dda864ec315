
theorem hd_X2_besides : yX2_besides.cls ≠ "java/lang/invoke/MethodHandle" ∧ yX2_besides.cls ≠ "java/lang/invoke/VarHandle" ∧ (parseMethodDescriptor yX2_besides.desc).map (fun d => d.parameters.length) = some 1 := by decide +kernel
set_option maxHeartbeats 4000000 in
set_option maxRecDepth 100000 in
theorem c_X2_besides (l : Launch) (D : va_G) (cI : ClassId) (adK adV : Nat → Nat)   (a0 : Int32) (o : Int32) (hf : f_X2_besides a0 = some o) : Ct l D cI adK adV yX2_besides (wy yX2_besides cX2_besides 2 (some .int)) { frames := 0, cells := 0, slots := 0, locals := 0 } 0 0 [.int a0] [] (fun _ => []) (some (.int o)) := by
  refine Ct.of (cc := cX2_besides) (nL := 2) (ret := (some .int)) (own := RX2) (by decide) (Nat.le_of_ble_eq_true rfl) rfl ?_
  intro p e s m args below meth c A C hr hlk hnm
  refine s_lv (lv1 := [(0, .int a0)]) [0] rfl ?_
  unfold f_X2_besides at hf
  refine s_iload_n C 1 0 rfl dX2_besides_0 rfl ?_
  refine s_ldc C 3 rfl dX2_besides_1 uu481 ?_
  refine s_iand C 4 rfl dX2_besides_3 ?_
  refine s_iconst C 5 rfl dX2_besides_4 ic_1 ?_
  refine s_ishr C 6 rfl dX2_besides_5 ?_
  refine s_iload_n C 7 0 rfl dX2_besides_6 rfl ?_
  refine s_ldc C 9 rfl dX2_besides_7 uu483 ?_
  refine s_iand C 10 rfl dX2_besides_9 ?_
  refine s_iconst C 11 rfl dX2_besides_10 ic_1 ?_
  refine s_ishl C 12 rfl dX2_besides_11 ?_
  refine s_ior C 13 rfl dX2_besides_12 ?_
  refine s_istore_n (lv1 := [(1, .int ((jshr (a0 &&& (-1082402 : Int32)) (1 : Int32)) ||| (jshl (a0 &&& (-17318417 : Int32)) (1 : Int32)))), (0, .int a0)]) C 14 1 rfl dX2_besides_13 rfl (Nat.le_of_ble_eq_true rfl) rfl ?_
  refine s_iload_n C 15 0 rfl dX2_besides_14 rfl ?_
  refine s_iload_n C 16 1 rfl dX2_besides_15 rfl ?_
  refine s_iconst C 17 rfl dX2_besides_16 ic_5 ?_
  refine s_ishr C 18 rfl dX2_besides_17 ?_
  refine s_ior C 19 rfl dX2_besides_18 ?_
  refine s_iload_n C 20 1 rfl dX2_besides_19 rfl ?_
  refine s_iconst C 21 rfl dX2_besides_20 ic_5 ?_
  refine s_ishl C 22 rfl dX2_besides_21 ?_
  refine s_ldc C 24 rfl dX2_besides_22 uu485 ?_
  refine s_iand C 25 rfl dX2_besides_24 ?_
  refine s_ior C 26 rfl dX2_besides_25 ?_
  obtain rfl := Option.some.inj hf
  exact s_iret C (fun i => i) hr hlk rfl rfl dX2_besides_26


theorem hd_X2_heapOf : yX2_heapOf.cls ≠ "java/lang/invoke/MethodHandle" ∧ yX2_heapOf.cls ≠ "java/lang/invoke/VarHandle" ∧ (parseMethodDescriptor yX2_heapOf.desc).map (fun d => d.parameters.length) = some 2 := by decide +kernel
set_option maxHeartbeats 4000000 in
set_option maxRecDepth 100000 in
theorem c_X2_heapOf (l : Launch) (D : va_G) (cI : ClassId) (adK adV : Nat → Nat)   (a0 : Int32) (a1 : Int32) (o : Int32) (hf : f_X2_heapOf a0 a1 = some o) : Ct l D cI adK adV yX2_heapOf (wy yX2_heapOf cX2_heapOf 5 (some .int)) { frames := 1, cells := 0, slots := 0, locals := 21 } 0 0 [.int a0, .int a1] [] (fun _ => []) (some (.int o)) := by
  refine Ct.of (cc := cX2_heapOf) (nL := 5) (ret := (some .int)) (own := RX2) (by decide) (Nat.le_of_ble_eq_true rfl) rfl ?_
  intro p e s m args below meth c A C hr hlk hnm
  refine s_lv (lv1 := [(0, .int a0), (1, .int a1)]) [0, 1] rfl ?_
  unfold f_X2_heapOf at hf
  refine s_iload_n C 1 0 rfl dX2_heapOf_0 rfl ?_
  refine s_iload_n C 2 1 rfl dX2_heapOf_1 rfl ?_
  refine s_iand C 3 rfl dX2_heapOf_2 ?_
  refine s_istore_n (lv1 := [(2, .int (a0 &&& a1)), (0, .int a0), (1, .int a1)]) C 4 2 rfl dX2_heapOf_3 rfl (Nat.le_of_ble_eq_true rfl) rfl ?_
  refine s_iconst C 5 rfl dX2_heapOf_4 ic_0 ?_
  refine s_istore_n (lv1 := [(3, .int (0 : Int32)), (2, .int (a0 &&& a1)), (0, .int a0), (1, .int a1)]) C 6 3 rfl dX2_heapOf_5 rfl (Nat.le_of_ble_eq_true rfl) rfl ?_
  refine s_lv (lv1 := [(1, .int a1), (2, .int (a0 &&& a1)), (3, .int (0 : Int32))]) [3, 1, 0] rfl ?_
  refine s_loop (α := Int32 × Int32) (fun n v5 => f_X2_heapOf_6 a1 n v5.1 v5.2) 6 (fun v5 => [(1, .int a1), (2, .int v5.1), (3, .int v5.2)]) (fun v5 => []) 1000 (a0 &&& a1, (0 : Int32)) hf (fun v5 hf => by simp only [f_X2_heapOf_6] at hf; exact absurd hf (by simp)) (fun n ih6 v5 hf => ?_)
  replace hf := (f_X2_heapOf_6_s _ _ _ _).symm.trans hf
  refine s_iload_n C 7 2 rfl dX2_heapOf_6 rfl ?_
  refine s_bipush C 9 rfl dX2_heapOf_7 bp_25 ?_
  refine s_icmp_ge C 39 12 rfl dX2_heapOf_9 rfl (fun hc10 => ?_) (fun hc10 => ?_)
  · replace hf := ite_t hc10 hf
    refine s_iload_n C 40 1 rfl dX2_heapOf_39 rfl ?_
    obtain rfl := Option.some.inj hf
    exact s_iret C (fun i => i) hr hlk rfl rfl dX2_heapOf_40
  · replace hf := ite_f hc10 hf
    refine s_iload_n C 13 1 rfl dX2_heapOf_12 rfl ?_
    refine s_iload_n C 14 1 rfl dX2_heapOf_13 rfl ?_
    obtain ⟨r7, q8, hf⟩ := bn_s hf
    refine s_callS0 (host := "") (rest := [.int v5.1]) C 17 (c_X2_besides l D cI adK adV v5.1 r7 q8) (gS uu503 uu478 uu14 uu479) hd_X2_besides rfl ⟨rfl, rfl⟩ ⟨Nat.le_of_ble_eq_true rfl, Nat.le_of_ble_eq_true rfl⟩ ⟨Nat.le_of_ble_eq_true rfl, Nat.le_of_ble_eq_true rfl⟩ rfl (Nat.le_of_ble_eq_true rfl) rfl dX2_heapOf_14 ?_
    refine s_iload_n C 18 0 rfl dX2_heapOf_17 rfl ?_
    refine s_iand C 19 rfl dX2_heapOf_18 ?_
    refine s_ior C 20 rfl dX2_heapOf_19 ?_
    refine s_istore (lv1 := [(4, .int (v5.1 ||| (r7 &&& a1))), (1, .int a1), (2, .int v5.1), (3, .int v5.2)]) C 22 4 rfl dX2_heapOf_20 (Nat.le_of_ble_eq_true rfl) rfl ?_
    refine s_iload C 24 0 rfl dX2_heapOf_22 rfl ?_
    refine s_iload_n C 25 2 rfl dX2_heapOf_24 rfl ?_
    refine s_icmp_ne C 30 28 rfl dX2_heapOf_25 rfl (fun hc9 => ?_) (fun hc9 => ?_)
    · replace hf := ite_f hc9 hf
      refine s_iload C 32 0 rfl dX2_heapOf_30 rfl ?_
      refine s_istore_n (lv1 := [(2, .int (v5.1 ||| (r7 &&& a1))), (4, .int (v5.1 ||| (r7 &&& a1))), (1, .int a1), (3, .int v5.2)]) C 33 2 rfl dX2_heapOf_32 rfl (Nat.le_of_ble_eq_true rfl) rfl ?_
      refine s_iinc (lv1 := [(3, .int (v5.2 + (1 : Int32))), (2, .int (v5.1 ||| (r7 &&& a1))), (4, .int (v5.1 ||| (r7 &&& a1))), (1, .int a1)]) C 36 3 3 rfl dX2_heapOf_33 rfl ic_1 (Nat.le_of_ble_eq_true rfl) rfl ?_
      refine s_goto C 6 dX2_heapOf_36 rfl ?_
      exact s_lv [3, 1, 0] rfl (ih6 ((v5.1 ||| (r7 &&& a1), v5.2 + (1 : Int32)) : Int32 × Int32) hf)
    · replace hf := ite_t hc9 hf
      refine s_iload_n C 29 2 rfl dX2_heapOf_28 rfl ?_
      obtain rfl := Option.some.inj hf
      exact s_iret C (fun i => i) hr hlk rfl rfl dX2_heapOf_29


theorem hd_X2_heapsOf : yX2_heapsOf.cls ≠ "java/lang/invoke/MethodHandle" ∧ yX2_heapsOf.cls ≠ "java/lang/invoke/VarHandle" ∧ (parseMethodDescriptor yX2_heapsOf.desc).map (fun d => d.parameters.length) = some 1 := by decide +kernel
set_option maxHeartbeats 4000000 in
set_option maxRecDepth 100000 in
theorem c_X2_heapsOf (l : Launch) (D : va_G) (cI : ClassId) (adK adV : Nat → Nat)   (a0 : Int32) (o : Int32) (hf : f_X2_heapsOf a0 = some o) : Ct l D cI adK adV yX2_heapsOf (wy yX2_heapsOf cX2_heapsOf 4 (some .int)) { frames := 2, cells := 0, slots := 0, locals := 45 } 0 0 [.int a0] [] (fun _ => []) (some (.int o)) := by
  refine Ct.of (cc := cX2_heapsOf) (nL := 4) (ret := (some .int)) (own := RX2) (by decide) (Nat.le_of_ble_eq_true rfl) rfl ?_
  intro p e s m args below meth c A C hr hlk hnm
  refine s_lv (lv1 := [(0, .int a0)]) [0] rfl ?_
  unfold f_X2_heapsOf at hf
  refine s_iconst C 1 rfl dX2_heapsOf_0 ic_0 ?_
  refine s_istore_n (lv1 := [(1, .int (0 : Int32)), (0, .int a0)]) C 2 1 rfl dX2_heapsOf_1 rfl (Nat.le_of_ble_eq_true rfl) rfl ?_
  refine s_iload_n C 3 1 rfl dX2_heapsOf_2 rfl ?_
  refine s_istore_n (lv1 := [(2, .int a0), (1, .int (0 : Int32)), (0, .int a0)]) C 4 2 rfl dX2_heapsOf_3 rfl (Nat.le_of_ble_eq_true rfl) rfl ?_
  refine s_iconst C 5 rfl dX2_heapsOf_4 ic_0 ?_
  refine s_istore_n (lv1 := [(3, .int (0 : Int32)), (2, .int a0), (1, .int (0 : Int32)), (0, .int a0)]) C 6 3 rfl dX2_heapsOf_5 rfl (Nat.le_of_ble_eq_true rfl) rfl ?_
  refine s_lv (lv1 := [(1, .int (0 : Int32)), (2, .int a0), (3, .int (0 : Int32))]) [2, 1, 0] rfl ?_
  refine s_loop (α := Int32 × Int32 × Int32) (fun n v5 => f_X2_heapsOf_6 n v5.1 v5.2.1 v5.2.2) 6 (fun v5 => [(1, .int v5.1), (2, .int v5.2.1), (3, .int v5.2.2)]) (fun v5 => []) 1000 ((0 : Int32), a0, (0 : Int32)) hf (fun v5 hf => by simp only [f_X2_heapsOf_6] at hf; exact absurd hf (by simp)) (fun n ih6 v5 hf => ?_)
  replace hf := (f_X2_heapsOf_6_s _ _ _ _).symm.trans hf
  refine s_iload_n C 7 2 rfl dX2_heapsOf_6 rfl ?_
  refine s_bipush C 9 rfl dX2_heapsOf_7 bp_25 ?_
  refine s_icmp_ge C 38 12 rfl dX2_heapsOf_9 rfl (fun hc10 => ?_) (fun hc10 => ?_)
  · replace hf := ite_t hc10 hf
    refine s_iload_n C 39 0 rfl dX2_heapsOf_38 rfl ?_
    obtain rfl := Option.some.inj hf
    exact s_iret C (fun i => i) hr hlk rfl rfl dX2_heapsOf_39
  · replace hf := ite_f hc10 hf
    refine s_iload_n C 13 1 rfl dX2_heapsOf_12 rfl ?_
    refine s_if_eq C 38 16 rfl dX2_heapsOf_13 rfl (fun hc9 => ?_) (fun hc9 => ?_)
    · replace hf := ite_t hc9 hf
      refine s_iload_n C 39 0 rfl dX2_heapsOf_38 rfl ?_
      obtain rfl := Option.some.inj hf
      exact s_iret C (fun i => i) hr hlk rfl rfl dX2_heapsOf_39
    · replace hf := ite_f hc9 hf
      refine s_iload_n C 17 1 rfl dX2_heapsOf_16 rfl ?_
      refine s_iload_n C 18 1 rfl dX2_heapsOf_17 rfl ?_
      refine s_iload_n C 19 1 rfl dX2_heapsOf_18 rfl ?_
      refine s_ineg C 20 rfl dX2_heapsOf_19 ?_
      refine s_iand C 21 rfl dX2_heapsOf_20 ?_
      refine s_iload_n C 22 1 rfl dX2_heapsOf_21 rfl ?_
      obtain ⟨r7, q8, hf⟩ := bn_s hf
      refine s_callS0 (host := "") (rest := [.int v5.2.1]) C 25 (c_X2_heapOf l D cI adK adV (v5.2.1 &&& (-v5.2.1)) v5.2.1 r7 q8) (gS uu647 uu500 uu14 uu501) hd_X2_heapOf rfl ⟨rfl, rfl⟩ ⟨Nat.le_of_ble_eq_true rfl, Nat.le_of_ble_eq_true rfl⟩ ⟨Nat.le_of_ble_eq_true rfl, Nat.le_of_ble_eq_true rfl⟩ rfl (Nat.le_of_ble_eq_true rfl) rfl dX2_heapsOf_22 ?_
      refine s_iconst C 26 rfl dX2_heapsOf_25 ic_m1 ?_
      refine s_ixor C 27 rfl dX2_heapsOf_26 ?_
      refine s_iand C 28 rfl dX2_heapsOf_27 ?_
      refine s_istore_n (lv1 := [(2, .int (v5.2.1 &&& (r7 ^^^ (-1 : Int32)))), (1, .int v5.1), (3, .int v5.2.2)]) C 29 2 rfl dX2_heapsOf_28 rfl (Nat.le_of_ble_eq_true rfl) rfl ?_
      refine s_iinc (lv1 := [(1, .int (v5.1 + (1 : Int32))), (2, .int (v5.2.1 &&& (r7 ^^^ (-1 : Int32)))), (3, .int v5.2.2)]) C 32 1 1 rfl dX2_heapsOf_29 rfl ic_1 (Nat.le_of_ble_eq_true rfl) rfl ?_
      refine s_iinc (lv1 := [(3, .int (v5.2.2 + (1 : Int32))), (1, .int (v5.1 + (1 : Int32))), (2, .int (v5.2.1 &&& (r7 ^^^ (-1 : Int32))))]) C 35 3 2 rfl dX2_heapsOf_32 rfl ic_1 (Nat.le_of_ble_eq_true rfl) rfl ?_
      refine s_goto C 6 dX2_heapsOf_35 rfl ?_
      exact s_lv [1, 2, 0] rfl (ih6 ((v5.1 + (1 : Int32), v5.2.1 &&& (r7 ^^^ (-1 : Int32)), v5.2.2 + (1 : Int32)) : Int32 × Int32 × Int32) hf)


theorem hd_X2_holesOf : yX2_holesOf.cls ≠ "java/lang/invoke/MethodHandle" ∧ yX2_holesOf.cls ≠ "java/lang/invoke/VarHandle" ∧ (parseMethodDescriptor yX2_holesOf.desc).map (fun d => d.parameters.length) = some 1 := by decide +kernel
set_option maxHeartbeats 4000000 in
set_option maxRecDepth 100000 in
theorem c_X2_holesOf (l : Launch) (D : va_G) (cI : ClassId) (adK adV : Nat → Nat)   (a0 : Int32) (o : Int32) (hf : f_X2_holesOf a0 = some o) : Ct l D cI adK adV yX2_holesOf (wy yX2_holesOf cX2_holesOf 5 (some .int)) { frames := 2, cells := 0, slots := 0, locals := 45 } 0 0 [.int a0] [] (fun _ => []) (some (.int o)) := by
  refine Ct.of (cc := cX2_holesOf) (nL := 5) (ret := (some .int)) (own := RX2) (by decide) (Nat.le_of_ble_eq_true rfl) rfl ?_
  intro p e s m args below meth c A C hr hlk hnm
  refine s_lv (lv1 := [(0, .int a0)]) [0] rfl ?_
  unfold f_X2_holesOf at hf
  refine s_iconst C 1 rfl dX2_holesOf_0 ic_0 ?_
  refine s_istore_n (lv1 := [(1, .int (0 : Int32)), (0, .int a0)]) C 2 1 rfl dX2_holesOf_1 rfl (Nat.le_of_ble_eq_true rfl) rfl ?_
  refine s_ldc C 4 rfl dX2_holesOf_2 uu485 ?_
  refine s_iload_n C 5 1 rfl dX2_holesOf_4 rfl ?_
  refine s_iconst C 6 rfl dX2_holesOf_5 ic_m1 ?_
  refine s_ixor C 7 rfl dX2_holesOf_6 ?_
  refine s_iand C 8 rfl dX2_holesOf_7 ?_
  refine s_istore_n (lv1 := [(2, .int ((33554431 : Int32) &&& (a0 ^^^ (-1 : Int32)))), (1, .int (0 : Int32)), (0, .int a0)]) C 9 2 rfl dX2_holesOf_8 rfl (Nat.le_of_ble_eq_true rfl) rfl ?_
  refine s_iconst C 10 rfl dX2_holesOf_9 ic_0 ?_
  refine s_istore_n (lv1 := [(3, .int (0 : Int32)), (2, .int ((33554431 : Int32) &&& (a0 ^^^ (-1 : Int32)))), (1, .int (0 : Int32)), (0, .int a0)]) C 11 3 rfl dX2_holesOf_10 rfl (Nat.le_of_ble_eq_true rfl) rfl ?_
  refine s_lv (lv1 := [(1, .int (0 : Int32)), (2, .int ((33554431 : Int32) &&& (a0 ^^^ (-1 : Int32)))), (3, .int (0 : Int32))]) [2, 1, 0] rfl ?_
  refine s_loop (α := Int32 × Int32 × Int32) (fun n v7 => f_X2_holesOf_11 n v7.1 v7.2.1 v7.2.2) 11 (fun v7 => [(1, .int v7.1), (2, .int v7.2.1), (3, .int v7.2.2)]) (fun v7 => []) 1000 ((0 : Int32), (33554431 : Int32) &&& (a0 ^^^ (-1 : Int32)), (0 : Int32)) hf (fun v7 hf => by simp only [f_X2_holesOf_11] at hf; exact absurd hf (by simp)) (fun n ih8 v7 hf => ?_)
  replace hf := (f_X2_holesOf_11_s _ _ _ _).symm.trans hf
  refine s_iload_n C 12 2 rfl dX2_holesOf_11 rfl ?_
  refine s_bipush C 14 rfl dX2_holesOf_12 bp_25 ?_
  refine s_icmp_ge C 55 17 rfl dX2_holesOf_14 rfl (fun hc14 => ?_) (fun hc14 => ?_)
  · replace hf := ite_t hc14 hf
    refine s_iload_n C 56 0 rfl dX2_holesOf_55 rfl ?_
    obtain rfl := Option.some.inj hf
    exact s_iret C (fun i => i) hr hlk rfl rfl dX2_holesOf_56
  · replace hf := ite_f hc14 hf
    refine s_iload_n C 18 1 rfl dX2_holesOf_17 rfl ?_
    refine s_if_eq C 55 21 rfl dX2_holesOf_18 rfl (fun hc13 => ?_) (fun hc13 => ?_)
    · replace hf := ite_t hc13 hf
      refine s_iload_n C 56 0 rfl dX2_holesOf_55 rfl ?_
      obtain rfl := Option.some.inj hf
      exact s_iret C (fun i => i) hr hlk rfl rfl dX2_holesOf_56
    · replace hf := ite_f hc13 hf
      refine s_iload_n C 22 1 rfl dX2_holesOf_21 rfl ?_
      refine s_iload_n C 23 1 rfl dX2_holesOf_22 rfl ?_
      refine s_ineg C 24 rfl dX2_holesOf_23 ?_
      refine s_iand C 25 rfl dX2_holesOf_24 ?_
      refine s_iload_n C 26 1 rfl dX2_holesOf_25 rfl ?_
      obtain ⟨r9, q10, hf⟩ := bn_s hf
      refine s_callS0 (host := "") (rest := []) C 29 (c_X2_heapOf l D cI adK adV (v7.2.1 &&& (-v7.2.1)) v7.2.1 r9 q10) (gS uu647 uu500 uu14 uu501) hd_X2_heapOf rfl ⟨rfl, rfl⟩ ⟨Nat.le_of_ble_eq_true rfl, Nat.le_of_ble_eq_true rfl⟩ ⟨Nat.le_of_ble_eq_true rfl, Nat.le_of_ble_eq_true rfl⟩ rfl (Nat.le_of_ble_eq_true rfl) rfl dX2_holesOf_26 ?_
      refine s_istore (lv1 := [(4, .int r9), (1, .int v7.1), (2, .int v7.2.1), (3, .int v7.2.2)]) C 31 4 rfl dX2_holesOf_29 (Nat.le_of_ble_eq_true rfl) rfl ?_
      refine s_iload C 33 0 rfl dX2_holesOf_31 rfl ?_
      refine s_ldc C 35 rfl dX2_holesOf_33 uu649 ?_
      refine s_iand C 36 rfl dX2_holesOf_35 ?_
      refine s_jn (α := Int32) 42 (fun j11 => [(1, .int j11), (2, .int v7.2.1), (3, .int v7.2.2), (4, .int r9)]) (fun j11 => []) (fun j11 => []) hf (fun j11 hf => ?_) (fun hj hf => ?_)
      · refine s_iload_n C 43 1 rfl dX2_holesOf_42 rfl ?_
        refine s_iload C 45 3 rfl dX2_holesOf_43 rfl ?_
        refine s_iconst C 46 rfl dX2_holesOf_45 ic_m1 ?_
        refine s_ixor C 47 rfl dX2_holesOf_46 ?_
        refine s_iand C 48 rfl dX2_holesOf_47 ?_
        refine s_istore_n (lv1 := [(2, .int (v7.2.1 &&& (r9 ^^^ (-1 : Int32)))), (1, .int j11), (3, .int v7.2.2), (4, .int r9)]) C 49 2 rfl dX2_holesOf_48 rfl (Nat.le_of_ble_eq_true rfl) rfl ?_
        refine s_iinc (lv1 := [(3, .int (v7.2.2 + (1 : Int32))), (2, .int (v7.2.1 &&& (r9 ^^^ (-1 : Int32)))), (1, .int j11), (4, .int r9)]) C 52 3 2 rfl dX2_holesOf_49 rfl ic_1 (Nat.le_of_ble_eq_true rfl) rfl ?_
        refine s_goto C 11 dX2_holesOf_52 rfl ?_
        exact s_lv [2, 1, 0] rfl (ih8 ((j11, v7.2.1 &&& (r9 ^^^ (-1 : Int32)), v7.2.2 + (1 : Int32)) : Int32 × Int32 × Int32) hf)
      · refine s_if_ne C 42 39 rfl dX2_holesOf_36 rfl (fun hc12 => ?_) (fun hc12 => ?_)
        · replace hf := jn_f hc12 hf
          replace hf := jn_i hf
          exact s_lv [1, 2, 3, 0] rfl (hj (v7.1 : Int32) hf)
        · replace hf := jn_t hc12 hf
          refine s_iinc (lv1 := [(1, .int (v7.1 + (1 : Int32))), (4, .int r9), (2, .int v7.2.1), (3, .int v7.2.2)]) C 42 1 1 rfl dX2_holesOf_39 rfl ic_1 (Nat.le_of_ble_eq_true rfl) rfl ?_
          replace hf := jn_i hf
          exact s_lv [0, 2, 3, 1] rfl (hj (v7.1 + (1 : Int32) : Int32) hf)


theorem hd_X2_turned : yX2_turned.cls ≠ "java/lang/invoke/MethodHandle" ∧ yX2_turned.cls ≠ "java/lang/invoke/VarHandle" ∧ (parseMethodDescriptor yX2_turned.desc).map (fun d => d.parameters.length) = some 1 := by decide +kernel
set_option maxHeartbeats 4000000 in
set_option maxRecDepth 100000 in
theorem c_X2_turned (l : Launch) (D : va_G) (cI : ClassId) (adK adV : Nat → Nat)   (a0 : Int32) (o : Int32) (hf : f_X2_turned a0 = some o) : Ct l D cI adK adV yX2_turned (wy yX2_turned cX2_turned 4 (some .int)) { frames := 0, cells := 0, slots := 0, locals := 0 } 0 0 [.int a0] [] (fun _ => []) (some (.int o)) := by
  refine Ct.of (cc := cX2_turned) (nL := 4) (ret := (some .int)) (own := RX2) (by decide) (Nat.le_of_ble_eq_true rfl) rfl ?_
  intro p e s m args below meth c A C hr hlk hnm
  refine s_lv (lv1 := [(0, .int a0)]) [0] rfl ?_
  unfold f_X2_turned at hf
  refine s_iconst C 1 rfl dX2_turned_0 ic_0 ?_
  refine s_istore_n (lv1 := [(1, .int (0 : Int32)), (0, .int a0)]) C 2 1 rfl dX2_turned_1 rfl (Nat.le_of_ble_eq_true rfl) rfl ?_
  refine s_iconst C 3 rfl dX2_turned_2 ic_0 ?_
  refine s_istore_n (lv1 := [(2, .int (0 : Int32)), (1, .int (0 : Int32)), (0, .int a0)]) C 4 2 rfl dX2_turned_3 rfl (Nat.le_of_ble_eq_true rfl) rfl ?_
  refine s_lv (lv1 := [(0, .int a0), (1, .int (0 : Int32)), (2, .int (0 : Int32))]) [2, 1, 0] rfl ?_
  refine s_loop (α := Int32 × Int32) (fun n v2 => f_X2_turned_4 a0 n v2.1 v2.2) 4 (fun v2 => [(0, .int a0), (1, .int v2.1), (2, .int v2.2)]) (fun v2 => []) 1000 ((0 : Int32), (0 : Int32)) hf (fun v2 hf => by simp only [f_X2_turned_4] at hf; exact absurd hf (by simp)) (fun n ih3 v2 hf => ?_)
  replace hf := (f_X2_turned_4_s _ _ _ _).symm.trans hf
  refine s_iload_n C 5 2 rfl dX2_turned_4 rfl ?_
  refine s_bipush C 7 rfl dX2_turned_5 bp_25 ?_
  refine s_icmp_ge C 40 10 rfl dX2_turned_7 rfl (fun hc4 => ?_) (fun hc4 => ?_)
  · replace hf := ite_t hc4 hf
    refine s_iload_n C 41 1 rfl dX2_turned_40 rfl ?_
    obtain rfl := Option.some.inj hf
    exact s_iret C (fun i => i) hr hlk rfl rfl dX2_turned_41
  · replace hf := ite_f hc4 hf
    refine s_iload_n C 11 2 rfl dX2_turned_10 rfl ?_
    refine s_iconst C 12 rfl dX2_turned_11 ic_5 ?_
    refine s_irem C 13 rfl dX2_turned_12 (by decide) ?_
    refine s_iconst C 14 rfl dX2_turned_13 ic_5 ?_
    refine s_imul C 15 rfl dX2_turned_14 ?_
    refine s_iconst C 16 rfl dX2_turned_15 ic_5 ?_
    refine s_iadd C 17 rfl dX2_turned_16 ?_
    refine s_iconst C 18 rfl dX2_turned_17 ic_1 ?_
    refine s_isub C 19 rfl dX2_turned_18 ?_
    refine s_iload_n C 20 2 rfl dX2_turned_19 rfl ?_
    refine s_iconst C 21 rfl dX2_turned_20 ic_5 ?_
    refine s_idiv C 22 rfl dX2_turned_21 (by decide) ?_
    refine s_isub C 23 rfl dX2_turned_22 ?_
    refine s_istore_n (lv1 := [(3, .int (((((jrem v2.2 (5 : Int32)) * (5 : Int32)) + (5 : Int32)) - (1 : Int32)) - (v2.2 / (5 : Int32)))), (0, .int a0), (1, .int v2.1), (2, .int v2.2)]) C 24 3 rfl dX2_turned_23 rfl (Nat.le_of_ble_eq_true rfl) rfl ?_
    refine s_iload_n C 25 2 rfl dX2_turned_24 rfl ?_
    refine s_iload_n C 26 1 rfl dX2_turned_25 rfl ?_
    refine s_iload_n C 27 3 rfl dX2_turned_26 rfl ?_
    refine s_ishr C 28 rfl dX2_turned_27 ?_
    refine s_iconst C 29 rfl dX2_turned_28 ic_1 ?_
    refine s_iand C 30 rfl dX2_turned_29 ?_
    refine s_iload_n C 31 0 rfl dX2_turned_30 rfl ?_
    refine s_ishl C 32 rfl dX2_turned_31 ?_
    refine s_ior C 33 rfl dX2_turned_32 ?_
    refine s_istore_n (lv1 := [(1, .int (v2.1 ||| (jshl ((jshr a0 v2.2) &&& (1 : Int32)) (((((jrem v2.2 (5 : Int32)) * (5 : Int32)) + (5 : Int32)) - (1 : Int32)) - (v2.2 / (5 : Int32)))))), (3, .int (((((jrem v2.2 (5 : Int32)) * (5 : Int32)) + (5 : Int32)) - (1 : Int32)) - (v2.2 / (5 : Int32)))), (0, .int a0), (2, .int v2.2)]) C 34 1 rfl dX2_turned_33 rfl (Nat.le_of_ble_eq_true rfl) rfl ?_
    refine s_iinc (lv1 := [(2, .int (v2.2 + (1 : Int32))), (1, .int (v2.1 ||| (jshl ((jshr a0 v2.2) &&& (1 : Int32)) (((((jrem v2.2 (5 : Int32)) * (5 : Int32)) + (5 : Int32)) - (1 : Int32)) - (v2.2 / (5 : Int32)))))), (3, .int (((((jrem v2.2 (5 : Int32)) * (5 : Int32)) + (5 : Int32)) - (1 : Int32)) - (v2.2 / (5 : Int32)))), (0, .int a0)]) C 37 2 3 rfl dX2_turned_34 rfl ic_1 (Nat.le_of_ble_eq_true rfl) rfl ?_
    refine s_goto C 4 dX2_turned_37 rfl ?_
    exact s_lv [3, 1, 0] rfl (ih3 ((v2.1 ||| (jshl ((jshr a0 v2.2) &&& (1 : Int32)) (((((jrem v2.2 (5 : Int32)) * (5 : Int32)) + (5 : Int32)) - (1 : Int32)) - (v2.2 / (5 : Int32)))), v2.2 + (1 : Int32)) : Int32 × Int32) hf)


theorem hd_X2_stepsToAll : yX2_stepsToAll.cls ≠ "java/lang/invoke/MethodHandle" ∧ yX2_stepsToAll.cls ≠ "java/lang/invoke/VarHandle" ∧ (parseMethodDescriptor yX2_stepsToAll.desc).map (fun d => d.parameters.length) = some 2 := by decide +kernel
set_option maxHeartbeats 4000000 in
set_option maxRecDepth 100000 in
theorem c_X2_stepsToAll (l : Launch) (D : va_G) (cI : ClassId) (adK adV : Nat → Nat)   (a0 : Int32) (a1 : Int32) (o : Int32) (hf : f_X2_stepsToAll a0 a1 = some o) : Ct l D cI adK adV yX2_stepsToAll (wy yX2_stepsToAll cX2_stepsToAll 4 (some .int)) { frames := 1, cells := 0, slots := 0, locals := 24 } 0 0 [.int a0, .int a1] [] (fun _ => []) (some (.int o)) := by
  refine Ct.of (cc := cX2_stepsToAll) (nL := 4) (ret := (some .int)) (own := RX2) (by decide) (Nat.le_of_ble_eq_true rfl) rfl ?_
  intro p e s m args below meth c A C hr hlk hnm
  refine s_lv (lv1 := [(0, .int a0), (1, .int a1)]) [0, 1] rfl ?_
  unfold f_X2_stepsToAll at hf
  refine s_iconst C 1 rfl dX2_stepsToAll_0 ic_0 ?_
  refine s_istore_n (lv1 := [(2, .int (0 : Int32)), (0, .int a0), (1, .int a1)]) C 2 2 rfl dX2_stepsToAll_1 rfl (Nat.le_of_ble_eq_true rfl) rfl ?_
  refine s_iconst C 3 rfl dX2_stepsToAll_2 ic_0 ?_
  refine s_istore_n (lv1 := [(3, .int (0 : Int32)), (2, .int (0 : Int32)), (0, .int a0), (1, .int a1)]) C 4 3 rfl dX2_stepsToAll_3 rfl (Nat.le_of_ble_eq_true rfl) rfl ?_
  refine s_lv (lv1 := [(0, .int a0), (1, .int a1), (2, .int (0 : Int32)), (3, .int (0 : Int32))]) [2, 3, 1, 0] rfl ?_
  refine s_loop (α := Int32 × Int32) (fun n v4 => f_X2_stepsToAll_4 a0 a1 n v4.1 v4.2) 4 (fun v4 => [(0, .int a0), (1, .int a1), (2, .int v4.1), (3, .int v4.2)]) (fun v4 => []) 1000 ((0 : Int32), (0 : Int32)) hf (fun v4 hf => by simp only [f_X2_stepsToAll_4] at hf; exact absurd hf (by simp)) (fun n ih5 v4 hf => ?_)
  replace hf := (f_X2_stepsToAll_4_s _ _ _ _ _).symm.trans hf
  refine s_iload_n C 5 3 rfl dX2_stepsToAll_4 rfl ?_
  refine s_bipush C 7 rfl dX2_stepsToAll_5 bp_25 ?_
  refine s_icmp_ge C 51 10 rfl dX2_stepsToAll_7 rfl (fun hc8 => ?_) (fun hc8 => ?_)
  · replace hf := ite_t hc8 hf
    refine s_iload_n C 52 2 rfl dX2_stepsToAll_51 rfl ?_
    obtain rfl := Option.some.inj hf
    exact s_iret C (fun i => i) hr hlk rfl rfl dX2_stepsToAll_52
  · replace hf := ite_f hc8 hf
    refine s_iload_n C 11 1 rfl dX2_stepsToAll_10 rfl ?_
    refine s_iconst C 12 rfl dX2_stepsToAll_11 ic_1 ?_
    refine s_iload_n C 13 3 rfl dX2_stepsToAll_12 rfl ?_
    refine s_ishl C 14 rfl dX2_stepsToAll_13 ?_
    refine s_iand C 15 rfl dX2_stepsToAll_14 ?_
    refine s_jn (α := Int32) 45 (fun j6 => [(0, .int a0), (1, .int a1), (2, .int j6), (3, .int v4.2)]) (fun j6 => []) (fun j6 => []) hf (fun j6 hf => ?_) (fun hj hf => ?_)
    · refine s_iinc (lv1 := [(3, .int (v4.2 + (1 : Int32))), (0, .int a0), (1, .int a1), (2, .int j6)]) C 48 3 3 rfl dX2_stepsToAll_45 rfl ic_1 (Nat.le_of_ble_eq_true rfl) rfl ?_
      refine s_goto C 4 dX2_stepsToAll_48 rfl ?_
      exact s_lv [1, 2, 3, 0] rfl (ih5 ((j6, v4.2 + (1 : Int32)) : Int32 × Int32) hf)
    · refine s_if_ne C 21 18 rfl dX2_stepsToAll_15 rfl (fun hc7 => ?_) (fun hc7 => ?_)
      · replace hf := jn_f hc7 hf
        refine s_iload_n C 22 2 rfl dX2_stepsToAll_21 rfl ?_
        refine s_iload_n C 23 0 rfl dX2_stepsToAll_22 rfl ?_
        refine s_iconst C 24 rfl dX2_stepsToAll_23 ic_5 ?_
        refine s_idiv C 25 rfl dX2_stepsToAll_24 (by decide) ?_
        refine s_iload_n C 26 3 rfl dX2_stepsToAll_25 rfl ?_
        refine s_iconst C 27 rfl dX2_stepsToAll_26 ic_5 ?_
        refine s_idiv C 28 rfl dX2_stepsToAll_27 (by decide) ?_
        refine s_isub C 29 rfl dX2_stepsToAll_28 ?_
        refine s_mabs C 32 uu778 uu780 uu11 uu781 ⟨Nat.le_of_ble_eq_true rfl, Nat.le_of_ble_eq_true rfl, Nat.le_of_ble_eq_true rfl, Nat.le_of_ble_eq_true rfl⟩ rfl dX2_stepsToAll_29 ?_
        refine s_iload_n C 33 0 rfl dX2_stepsToAll_32 rfl ?_
        refine s_iconst C 34 rfl dX2_stepsToAll_33 ic_5 ?_
        refine s_irem C 35 rfl dX2_stepsToAll_34 (by decide) ?_
        refine s_iload_n C 36 3 rfl dX2_stepsToAll_35 rfl ?_
        refine s_iconst C 37 rfl dX2_stepsToAll_36 ic_5 ?_
        refine s_irem C 38 rfl dX2_stepsToAll_37 (by decide) ?_
        refine s_isub C 39 rfl dX2_stepsToAll_38 ?_
        refine s_mabs C 42 uu778 uu780 uu11 uu781 ⟨Nat.le_of_ble_eq_true rfl, Nat.le_of_ble_eq_true rfl, Nat.le_of_ble_eq_true rfl, Nat.le_of_ble_eq_true rfl⟩ rfl dX2_stepsToAll_39 ?_
        refine s_iadd C 43 rfl dX2_stepsToAll_42 ?_
        refine s_iadd C 44 rfl dX2_stepsToAll_43 ?_
        refine s_istore_n (lv1 := [(2, .int (v4.1 + ((jabs ((a0 / (5 : Int32)) - (v4.2 / (5 : Int32)))) + (jabs ((jrem a0 (5 : Int32)) - (jrem v4.2 (5 : Int32))))))), (0, .int a0), (1, .int a1), (3, .int v4.2)]) C 45 2 rfl dX2_stepsToAll_44 rfl (Nat.le_of_ble_eq_true rfl) rfl ?_
        replace hf := jn_i hf
        exact s_lv [1, 2, 0, 3] rfl (hj (v4.1 + ((jabs ((a0 / (5 : Int32)) - (v4.2 / (5 : Int32)))) + (jabs ((jrem a0 (5 : Int32)) - (jrem v4.2 (5 : Int32))))) : Int32) hf)
      · replace hf := jn_t hc7 hf
        refine s_goto C 45 dX2_stepsToAll_18 rfl ?_
        replace hf := jn_i hf
        exact s_lv [0, 1, 2, 3] rfl (hj (v4.1 : Int32) hf)


theorem hd_X5_isCell : yX5_isCell.cls ≠ "java/lang/invoke/MethodHandle" ∧ yX5_isCell.cls ≠ "java/lang/invoke/VarHandle" ∧ (parseMethodDescriptor yX5_isCell.desc).map (fun d => d.parameters.length) = some 1 := by decide +kernel
set_option maxHeartbeats 4000000 in
set_option maxRecDepth 100000 in
theorem c_X5_isCell (l : Launch) (D : va_G) (cI : ClassId) (adK adV : Nat → Nat)   (a0 : Int32) (o : Int32) (hf : f_X5_isCell a0 = some o) : Ct l D cI adK adV yX5_isCell (wy yX5_isCell cX5_isCell 1 (some .boolean)) { frames := 0, cells := 0, slots := 0, locals := 0 } 0 0 [.int a0] [] (fun _ => []) (some (.int o)) := by
  refine Ct.of (cc := cX5_isCell) (nL := 1) (ret := (some .boolean)) (own := RX5) (by decide) (Nat.le_of_ble_eq_true rfl) rfl ?_
  intro p e s m args below meth c A C hr hlk hnm
  refine s_lv (lv1 := [(0, .int a0)]) [0] rfl ?_
  unfold f_X5_isCell at hf
  refine s_iload_n C 1 0 rfl dX5_isCell_0 rfl ?_
  refine s_if_lt C 14 4 rfl dX5_isCell_1 rfl (fun hc2 => ?_) (fun hc2 => ?_)
  · replace hf := ite_t hc2 hf
    refine s_iconst C 15 rfl dX5_isCell_14 ic_0 ?_
    obtain rfl := Option.some.inj hf
    exact s_zret C (fun i => i) hr hlk (Or.inl rfl) rfl rfl dX5_isCell_15
  · replace hf := ite_f hc2 hf
    refine s_iload_n C 5 0 rfl dX5_isCell_4 rfl ?_
    refine s_bipush C 7 rfl dX5_isCell_5 bp_25 ?_
    refine s_icmp_ge C 14 10 rfl dX5_isCell_7 rfl (fun hc1 => ?_) (fun hc1 => ?_)
    · replace hf := ite_t hc1 hf
      refine s_iconst C 15 rfl dX5_isCell_14 ic_0 ?_
      obtain rfl := Option.some.inj hf
      exact s_zret C (fun i => i) hr hlk (Or.inl rfl) rfl rfl dX5_isCell_15
    · replace hf := ite_f hc1 hf
      refine s_iconst C 11 rfl dX5_isCell_10 ic_1 ?_
      refine s_goto C 15 dX5_isCell_11 rfl ?_
      obtain rfl := Option.some.inj hf
      exact s_zret C (fun i => i) hr hlk (Or.inr rfl) rfl rfl dX5_isCell_15


theorem hd_X5_isTwofold : yX5_isTwofold.cls ≠ "java/lang/invoke/MethodHandle" ∧ yX5_isTwofold.cls ≠ "java/lang/invoke/VarHandle" ∧ (parseMethodDescriptor yX5_isTwofold.desc).map (fun d => d.parameters.length) = some 1 := by decide +kernel
set_option maxHeartbeats 4000000 in
set_option maxRecDepth 100000 in
theorem c_X5_isTwofold (l : Launch) (D : va_G) (cI : ClassId) (adK adV : Nat → Nat)   (a0 : Int32) (o : Int32) (hf : f_X5_isTwofold a0 = some o) : Ct l D cI adK adV yX5_isTwofold (wy yX5_isTwofold cX5_isTwofold 1 (some .boolean)) { frames := 0, cells := 0, slots := 0, locals := 0 } 0 0 [.int a0] [] (fun _ => []) (some (.int o)) := by
  refine Ct.of (cc := cX5_isTwofold) (nL := 1) (ret := (some .boolean)) (own := RX5) (by decide) (Nat.le_of_ble_eq_true rfl) rfl ?_
  intro p e s m args below meth c A C hr hlk hnm
  refine s_lv (lv1 := [(0, .int a0)]) [0] rfl ?_
  unfold f_X5_isTwofold at hf
  refine s_iload_n C 1 0 rfl dX5_isTwofold_0 rfl ?_
  refine s_if_eq C 9 4 rfl dX5_isTwofold_1 rfl (fun hc2 => ?_) (fun hc2 => ?_)
  · replace hf := ite_t hc2 hf
    refine s_iconst C 10 rfl dX5_isTwofold_9 ic_1 ?_
    refine s_goto C 14 dX5_isTwofold_10 rfl ?_
    obtain rfl := Option.some.inj hf
    exact s_zret C (fun i => i) hr hlk (Or.inr rfl) rfl rfl dX5_isTwofold_14
  · replace hf := ite_f hc2 hf
    refine s_iload_n C 5 0 rfl dX5_isTwofold_4 rfl ?_
    refine s_iconst C 6 rfl dX5_isTwofold_5 ic_1 ?_
    refine s_icmp_ne C 13 9 rfl dX5_isTwofold_6 rfl (fun hc1 => ?_) (fun hc1 => ?_)
    · replace hf := ite_f hc1 hf
      refine s_iconst C 14 rfl dX5_isTwofold_13 ic_0 ?_
      obtain rfl := Option.some.inj hf
      exact s_zret C (fun i => i) hr hlk (Or.inl rfl) rfl rfl dX5_isTwofold_14
    · replace hf := ite_t hc1 hf
      refine s_iconst C 10 rfl dX5_isTwofold_9 ic_1 ?_
      refine s_goto C 14 dX5_isTwofold_10 rfl ?_
      obtain rfl := Option.some.inj hf
      exact s_zret C (fun i => i) hr hlk (Or.inr rfl) rfl rfl dX5_isTwofold_14


theorem hd_X5_bitesName : yX5_bitesName.cls ≠ "java/lang/invoke/MethodHandle" ∧ yX5_bitesName.cls ≠ "java/lang/invoke/VarHandle" ∧ (parseMethodDescriptor yX5_bitesName.desc).map (fun d => d.parameters.length) = some 1 := by decide +kernel
set_option maxHeartbeats 4000000 in
set_option maxRecDepth 100000 in
theorem c_X5_bitesName (l : Launch) (D : va_G) (cI : ClassId) (adK adV : Nat → Nat)   (a0 : Int32) (o : Int32) (hf : f_X5_bitesName a0 = some o) : Ct l D cI adK adV yX5_bitesName (wy yX5_bitesName cX5_bitesName 1 (some .int)) { frames := 0, cells := 0, slots := 0, locals := 0 } 0 0 [.int a0] [] (fun _ => []) (some (.int o)) := by
  refine Ct.of (cc := cX5_bitesName) (nL := 1) (ret := (some .int)) (own := RX5) (by decide) (Nat.le_of_ble_eq_true rfl) rfl ?_
  intro p e s m args below meth c A C hr hlk hnm
  refine s_lv (lv1 := [(0, .int a0)]) [0] rfl ?_
  unfold f_X5_bitesName at hf
  refine s_bipush C 2 rfl dX5_bitesName_0 bp_100 ?_
  refine s_iload_n C 3 0 rfl dX5_bitesName_2 rfl ?_
  refine s_bipush C 5 rfl dX5_bitesName_3 bp_25 ?_
  refine s_idiv C 6 rfl dX5_bitesName_5 (by decide) ?_
  refine s_imul C 7 rfl dX5_bitesName_6 ?_
  refine s_iload_n C 8 0 rfl dX5_bitesName_7 rfl ?_
  refine s_bipush C 10 rfl dX5_bitesName_8 bp_25 ?_
  refine s_irem C 11 rfl dX5_bitesName_10 (by decide) ?_
  refine s_iadd C 12 rfl dX5_bitesName_11 ?_
  obtain rfl := Option.some.inj hf
  exact s_iret C (fun i => i) hr hlk rfl rfl dX5_bitesName_12


theorem hd_X5_bridgesOf : yX5_bridgesOf.cls ≠ "java/lang/invoke/MethodHandle" ∧ yX5_bridgesOf.cls ≠ "java/lang/invoke/VarHandle" ∧ (parseMethodDescriptor yX5_bridgesOf.desc).map (fun d => d.parameters.length) = some 1 := by decide +kernel
set_option maxHeartbeats 4000000 in
set_option maxRecDepth 100000 in
theorem c_X5_bridgesOf (l : Launch) (D : va_G) (cI : ClassId) (adK adV : Nat → Nat)   (a0 : Int32) (o : Int32) (hf : f_X5_bridgesOf a0 = some o) : Ct l D cI adK adV yX5_bridgesOf (wy yX5_bridgesOf cX5_bridgesOf 5 (some .int)) { frames := 3, cells := 0, slots := 0, locals := 68 } 0 0 [.int a0] [] (fun _ => []) (some (.int o)) := by
  refine Ct.of (cc := cX5_bridgesOf) (nL := 5) (ret := (some .int)) (own := RX5) (by decide) (Nat.le_of_ble_eq_true rfl) rfl ?_
  intro p e s m args below meth c A C hr hlk hnm
  refine s_lv (lv1 := [(0, .int a0)]) [0] rfl ?_
  unfold f_X5_bridgesOf at hf
  refine s_iload_n C 1 0 rfl dX5_bridgesOf_0 rfl ?_
  obtain ⟨r1, q2, hf⟩ := bn_s hf
  refine s_callS0 (host := "") (rest := []) C 4 (c_X2_heapsOf l D cI adK adV a0 r1 q2) (gS uu757 uu759 uu14 uu760) hd_X2_heapsOf rfl ⟨rfl, rfl⟩ ⟨Nat.le_of_ble_eq_true rfl, Nat.le_of_ble_eq_true rfl⟩ ⟨Nat.le_of_ble_eq_true rfl, Nat.le_of_ble_eq_true rfl⟩ rfl (Nat.le_of_ble_eq_true rfl) rfl dX5_bridgesOf_1 ?_
  refine s_istore_n (lv1 := [(1, .int r1), (0, .int a0)]) C 5 1 rfl dX5_bridgesOf_4 rfl (Nat.le_of_ble_eq_true rfl) rfl ?_
  refine s_iconst C 6 rfl dX5_bridgesOf_5 ic_0 ?_
  refine s_istore_n (lv1 := [(2, .int (0 : Int32)), (1, .int r1), (0, .int a0)]) C 7 2 rfl dX5_bridgesOf_6 rfl (Nat.le_of_ble_eq_true rfl) rfl ?_
  refine s_iconst C 8 rfl dX5_bridgesOf_7 ic_0 ?_
  refine s_istore_n (lv1 := [(3, .int (0 : Int32)), (2, .int (0 : Int32)), (1, .int r1), (0, .int a0)]) C 9 3 rfl dX5_bridgesOf_8 rfl (Nat.le_of_ble_eq_true rfl) rfl ?_
  refine s_lv (lv1 := [(0, .int a0), (1, .int r1), (2, .int (0 : Int32)), (3, .int (0 : Int32))]) [3, 2, 1, 0] rfl ?_
  refine s_loop (α := Int32 × Int32) (fun n v9 => f_X5_bridgesOf_9 a0 r1 n v9.1 v9.2) 9 (fun v9 => [(0, .int a0), (1, .int r1), (2, .int v9.1), (3, .int v9.2)]) (fun v9 => []) 1000 ((0 : Int32), (0 : Int32)) hf (fun v9 hf => by simp only [f_X5_bridgesOf_9] at hf; exact absurd hf (by simp)) (fun n ih10 v9 hf => ?_)
  replace hf := (f_X5_bridgesOf_9_s _ _ _ _ _).symm.trans hf
  refine s_iload_n C 10 3 rfl dX5_bridgesOf_9 rfl ?_
  refine s_bipush C 12 rfl dX5_bridgesOf_10 bp_25 ?_
  refine s_icmp_ge C 51 15 rfl dX5_bridgesOf_12 rfl (fun hc16 => ?_) (fun hc16 => ?_)
  · replace hf := ite_t hc16 hf
    refine s_iload_n C 52 2 rfl dX5_bridgesOf_51 rfl ?_
    obtain rfl := Option.some.inj hf
    exact s_iret C (fun i => i) hr hlk rfl rfl dX5_bridgesOf_52
  · replace hf := ite_f hc16 hf
    refine s_iconst C 16 rfl dX5_bridgesOf_15 ic_1 ?_
    refine s_iload_n C 17 3 rfl dX5_bridgesOf_16 rfl ?_
    refine s_ishl C 18 rfl dX5_bridgesOf_17 ?_
    refine s_istore (lv1 := [(4, .int (jshl (1 : Int32) v9.2)), (0, .int a0), (1, .int r1), (2, .int v9.1), (3, .int v9.2)]) C 20 4 rfl dX5_bridgesOf_18 (Nat.le_of_ble_eq_true rfl) rfl ?_
    refine s_iload_n C 21 1 rfl dX5_bridgesOf_20 rfl ?_
    refine s_iload C 23 0 rfl dX5_bridgesOf_21 rfl ?_
    refine s_iand C 24 rfl dX5_bridgesOf_23 ?_
    refine s_bn (α := Int32) 45 (fun j11 => [(0, .int a0), (1, .int r1), (2, .int j11), (3, .int v9.2)]) (fun j11 => []) (fun j11 => []) hf (fun j11 hf => ?_) (fun hj hf => ?_)
    · refine s_iinc (lv1 := [(3, .int (v9.2 + (1 : Int32))), (0, .int a0), (1, .int r1), (2, .int j11)]) C 48 3 3 rfl dX5_bridgesOf_45 rfl ic_1 (Nat.le_of_ble_eq_true rfl) rfl ?_
      refine s_goto C 9 dX5_bridgesOf_48 rfl ?_
      exact s_lv [1, 2, 3, 0] rfl (ih10 ((j11, v9.2 + (1 : Int32)) : Int32 × Int32) hf)
    · refine s_if_eq C 45 27 rfl dX5_bridgesOf_24 rfl (fun hc15 => ?_) (fun hc15 => ?_)
      · replace hf := bn_t hc15 hf
        replace hf := bn_i hf
        exact s_lv [1, 2, 3, 4] rfl (hj (v9.1 : Int32) hf)
      · replace hf := bn_f hc15 hf
        refine s_iload_n C 28 1 rfl dX5_bridgesOf_27 rfl ?_
        refine s_iload C 30 0 rfl dX5_bridgesOf_28 rfl ?_
        refine s_iconst C 31 rfl dX5_bridgesOf_30 ic_m1 ?_
        refine s_ixor C 32 rfl dX5_bridgesOf_31 ?_
        refine s_iand C 33 rfl dX5_bridgesOf_32 ?_
        obtain ⟨r12, q13, hf⟩ := bn_b hf
        refine s_callS0 (host := "") (rest := []) C 36 (c_X2_heapsOf l D cI adK adV (a0 &&& ((jshl (1 : Int32) v9.2) ^^^ (-1 : Int32))) r12 q13) (gS uu757 uu759 uu14 uu760) hd_X2_heapsOf rfl ⟨rfl, rfl⟩ ⟨Nat.le_of_ble_eq_true rfl, Nat.le_of_ble_eq_true rfl⟩ ⟨Nat.le_of_ble_eq_true rfl, Nat.le_of_ble_eq_true rfl⟩ rfl (Nat.le_of_ble_eq_true rfl) rfl dX5_bridgesOf_33 ?_
        refine s_iload_n C 37 2 rfl dX5_bridgesOf_36 rfl ?_
        refine s_icmp_le C 45 40 rfl dX5_bridgesOf_37 rfl (fun hc14 => ?_) (fun hc14 => ?_)
        · replace hf := bn_t hc14 hf
          replace hf := bn_i hf
          exact s_lv [1, 2, 3, 4] rfl (hj (v9.1 : Int32) hf)
        · replace hf := bn_f hc14 hf
          refine s_iload_n C 41 3 rfl dX5_bridgesOf_40 rfl ?_
          refine s_iload C 43 0 rfl dX5_bridgesOf_41 rfl ?_
          refine s_ior C 44 rfl dX5_bridgesOf_43 ?_
          refine s_istore_n (lv1 := [(2, .int (v9.1 ||| (jshl (1 : Int32) v9.2))), (4, .int (jshl (1 : Int32) v9.2)), (0, .int a0), (1, .int r1), (3, .int v9.2)]) C 45 2 rfl dX5_bridgesOf_44 rfl (Nat.le_of_ble_eq_true rfl) rfl ?_
          replace hf := bn_i hf
          exact s_lv [2, 3, 0, 4] rfl (hj (v9.1 ||| (jshl (1 : Int32) v9.2) : Int32) hf)


theorem hd_X5_partOf : yX5_partOf.cls ≠ "java/lang/invoke/MethodHandle" ∧ yX5_partOf.cls ≠ "java/lang/invoke/VarHandle" ∧ (parseMethodDescriptor yX5_partOf.desc).map (fun d => d.parameters.length) = some 3 := by decide +kernel
set_option maxHeartbeats 4000000 in
set_option maxRecDepth 100000 in
theorem c_X5_partOf (l : Launch) (D : va_G) (cI : ClassId) (adK adV : Nat → Nat)   (a0 : Int32) (a1 : Int32) (a2 : Int32) (o : Int64) (hf : f_X5_partOf a0 a1 a2 = some o) : Ct l D cI adK adV yX5_partOf (wy yX5_partOf cX5_partOf 7 (some .long)) { frames := 0, cells := 0, slots := 0, locals := 0 } 0 0 [.int a0, .int a1, .int a2] [] (fun _ => []) (some (.long o)) := by
  refine Ct.of (cc := cX5_partOf) (nL := 7) (ret := (some .long)) (own := RX5) (by decide) (Nat.le_of_ble_eq_true rfl) rfl ?_
  intro p e s m args below meth c A C hr hlk hnm
  refine s_lv (lv1 := [(0, .int a0), (1, .int a1), (2, .int a2)]) [0, 1, 2] rfl ?_
  unfold f_X5_partOf at hf
  refine s_iload_n C 1 1 rfl dX5_partOf_0 rfl ?_
  refine s_istore_n (lv1 := [(3, .int a1), (0, .int a0), (1, .int a1), (2, .int a2)]) C 2 3 rfl dX5_partOf_1 rfl (Nat.le_of_ble_eq_true rfl) rfl ?_
  refine s_iload_n C 3 1 rfl dX5_partOf_2 rfl ?_
  refine s_istore (lv1 := [(4, .int a0), (3, .int a1), (0, .int a0), (1, .int a1), (2, .int a2)]) C 5 4 rfl dX5_partOf_3 (Nat.le_of_ble_eq_true rfl) rfl ?_
  refine s_iconst C 6 rfl dX5_partOf_5 ic_0 ?_
  refine s_istore (lv1 := [(5, .int (0 : Int32)), (4, .int a0), (3, .int a1), (0, .int a0), (1, .int a1), (2, .int a2)]) C 8 5 rfl dX5_partOf_6 (Nat.le_of_ble_eq_true rfl) rfl ?_
  refine s_lv (lv1 := [(0, .int a0), (1, .int a1), (2, .int a2), (3, .int a1), (4, .int a0), (5, .int (0 : Int32))]) [3, 4, 5, 2, 1, 0] rfl ?_
  refine s_kont (γ := Int32) (o := o) (fun KQ => f_X5_partOf_8 KQ 1000 a1 a0 (0 : Int32) = some o) 39 (fun e5 => [(0, .int a0), (1, .int a1), (2, .int a2), (3, .int e5)]) (fun e5 => []) (fun e5 => []) hf (fun e5 hf => ?_) (fun k4 hk4 hf => ?_)
  · refine s_iload_n C 40 3 rfl dX5_partOf_39 rfl ?_
    refine s_iconst C 41 rfl dX5_partOf_40 ic_1 ?_
    refine s_icmp_ge C 47 44 rfl dX5_partOf_41 rfl (fun hc9 => ?_) (fun hc9 => ?_)
    · replace hf := ite_t hc9 hf
      refine s_iload_n C 48 2 rfl dX5_partOf_47 rfl ?_
      refine s_if_ne C 58 51 rfl dX5_partOf_48 rfl (fun hc8 => ?_) (fun hc8 => ?_)
      · replace hf := ite_f hc8 hf
        refine s_iload_n C 59 1 rfl dX5_partOf_58 rfl ?_
        refine s_iload_n C 60 3 rfl dX5_partOf_59 rfl ?_
        obtain ⟨h6, hf⟩ := ck_nz hf
        refine s_idiv C 61 rfl dX5_partOf_60 h6 ?_
        refine s_i2l C 62 rfl dX5_partOf_61 ?_
        obtain rfl := Option.some.inj hf
        exact s_lret C (fun i => i) hr hlk rfl rfl dX5_partOf_62
      · replace hf := ite_t hc8 hf
        refine s_iload_n C 52 0 rfl dX5_partOf_51 rfl ?_
        refine s_iload_n C 53 3 rfl dX5_partOf_52 rfl ?_
        obtain ⟨h7, hf⟩ := ck_nz hf
        refine s_idiv C 54 rfl dX5_partOf_53 h7 ?_
        refine s_i2l C 55 rfl dX5_partOf_54 ?_
        refine s_goto C 62 dX5_partOf_55 rfl ?_
        obtain rfl := Option.some.inj hf
        exact s_lret C (fun i => i) hr hlk rfl rfl dX5_partOf_62
    · replace hf := ite_f hc9 hf
      refine s_iload_n C 45 2 rfl dX5_partOf_44 rfl ?_
      refine s_i2l C 46 rfl dX5_partOf_45 ?_
      obtain rfl := Option.some.inj hf
      exact s_lret C (fun i => i) hr hlk rfl rfl dX5_partOf_46
  · skip
    refine s_loop (α := Int32 × Int32 × Int32) (fun n v10 => f_X5_partOf_8 k4 n v10.1 v10.2.1 v10.2.2) 8 (fun v10 => [(0, .int a0), (1, .int a1), (2, .int a2), (3, .int v10.1), (4, .int v10.2.1), (5, .int v10.2.2)]) (fun v10 => []) 1000 (a1, a0, (0 : Int32)) hf (fun v10 hf => by simp only [f_X5_partOf_8] at hf; exact absurd hf (by simp)) (fun n ih11 v10 hf => ?_)
    replace hf := (f_X5_partOf_8_s _ _ _ _ _).symm.trans hf
    refine s_iload C 10 5 rfl dX5_partOf_8 rfl ?_
    refine s_bipush C 12 rfl dX5_partOf_10 bp_64 ?_
    refine s_icmp_ge C 39 15 rfl dX5_partOf_12 rfl (fun hc14 => ?_) (fun hc14 => ?_)
    · replace hf := ite_t hc14 hf
      exact s_lv [0, 1, 2, 3] rfl (hk4 (v10.1 : Int32) hf)
    · replace hf := ite_f hc14 hf
      refine s_iload C 17 4 rfl dX5_partOf_15 rfl ?_
      refine s_if_eq C 39 20 rfl dX5_partOf_17 rfl (fun hc13 => ?_) (fun hc13 => ?_)
      · replace hf := ite_t hc13 hf
        exact s_lv [0, 1, 2, 3] rfl (hk4 (v10.1 : Int32) hf)
      · replace hf := ite_f hc13 hf
        refine s_iload_n C 21 3 rfl dX5_partOf_20 rfl ?_
        refine s_iload C 23 4 rfl dX5_partOf_21 rfl ?_
        obtain ⟨h12, hf⟩ := ck_nz hf
        refine s_irem C 24 rfl dX5_partOf_23 h12 ?_
        refine s_istore (lv1 := [(6, .int (jrem v10.1 v10.2.1)), (0, .int a0), (1, .int a1), (2, .int a2), (3, .int v10.1), (4, .int v10.2.1), (5, .int v10.2.2)]) C 26 6 rfl dX5_partOf_24 (Nat.le_of_ble_eq_true rfl) rfl ?_
        refine s_iload C 28 5 rfl dX5_partOf_26 rfl ?_
        refine s_istore_n (lv1 := [(3, .int v10.2.1), (6, .int (jrem v10.1 v10.2.1)), (0, .int a0), (1, .int a1), (2, .int a2), (4, .int v10.2.1), (5, .int v10.2.2)]) C 29 3 rfl dX5_partOf_28 rfl (Nat.le_of_ble_eq_true rfl) rfl ?_
        refine s_iload C 31 1 rfl dX5_partOf_29 rfl ?_
        refine s_istore (lv1 := [(4, .int (jrem v10.1 v10.2.1)), (3, .int v10.2.1), (6, .int (jrem v10.1 v10.2.1)), (0, .int a0), (1, .int a1), (2, .int a2), (5, .int v10.2.2)]) C 33 4 rfl dX5_partOf_31 (Nat.le_of_ble_eq_true rfl) rfl ?_
        refine s_iinc (lv1 := [(5, .int (v10.2.2 + (1 : Int32))), (4, .int (jrem v10.1 v10.2.1)), (3, .int v10.2.1), (6, .int (jrem v10.1 v10.2.1)), (0, .int a0), (1, .int a1), (2, .int a2)]) C 36 5 6 rfl dX5_partOf_33 rfl ic_1 (Nat.le_of_ble_eq_true rfl) rfl ?_
        refine s_goto C 8 dX5_partOf_36 rfl ?_
        exact s_lv [4, 5, 6, 2, 1, 0] rfl (ih11 ((v10.2.1, jrem v10.1 v10.2.1, v10.2.2 + (1 : Int32)) : Int32 × Int32 × Int32) hf)


theorem hd_X5_nextSeed : yX5_nextSeed.cls ≠ "java/lang/invoke/MethodHandle" ∧ yX5_nextSeed.cls ≠ "java/lang/invoke/VarHandle" ∧ (parseMethodDescriptor yX5_nextSeed.desc).map (fun d => d.parameters.length) = some 1 := by decide +kernel
set_option maxHeartbeats 4000000 in
set_option maxRecDepth 100000 in
theorem c_X5_nextSeed (l : Launch) (D : va_G) (cI : ClassId) (adK adV : Nat → Nat)   (a0 : Int32) (o : Int32) (hf : f_X5_nextSeed a0 = some o) : Ct l D cI adK adV yX5_nextSeed (wy yX5_nextSeed cX5_nextSeed 1 (some .int)) { frames := 0, cells := 0, slots := 0, locals := 0 } 0 0 [.int a0] [] (fun _ => []) (some (.int o)) := by
  refine Ct.of (cc := cX5_nextSeed) (nL := 1) (ret := (some .int)) (own := RX5) (by decide) (Nat.le_of_ble_eq_true rfl) rfl ?_
  intro p e s m args below meth c A C hr hlk hnm
  refine s_lv (lv1 := [(0, .int a0)]) [0] rfl ?_
  unfold f_X5_nextSeed at hf
  refine s_iload_n C 1 0 rfl dX5_nextSeed_0 rfl ?_
  refine s_ldc_w C 4 rfl dX5_nextSeed_1 uu946 ?_
  refine s_imul C 5 rfl dX5_nextSeed_4 ?_
  refine s_ldc_w C 8 rfl dX5_nextSeed_5 uu948 ?_
  refine s_iadd C 9 rfl dX5_nextSeed_8 ?_
  obtain rfl := Option.some.inj hf
  exact s_iret C (fun i => i) hr hlk rfl rfl dX5_nextSeed_9


theorem hd_X5_drawnFrom : yX5_drawnFrom.cls ≠ "java/lang/invoke/MethodHandle" ∧ yX5_drawnFrom.cls ≠ "java/lang/invoke/VarHandle" ∧ (parseMethodDescriptor yX5_drawnFrom.desc).map (fun d => d.parameters.length) = some 1 := by decide +kernel
set_option maxHeartbeats 4000000 in
set_option maxRecDepth 100000 in
theorem c_X5_drawnFrom (l : Launch) (D : va_G) (cI : ClassId) (adK adV : Nat → Nat)   (a0 : Int32) (o : Int32) (hf : f_X5_drawnFrom a0 = some o) : Ct l D cI adK adV yX5_drawnFrom (wy yX5_drawnFrom cX5_drawnFrom 1 (some .int)) { frames := 0, cells := 0, slots := 0, locals := 0 } 0 0 [.int a0] [] (fun _ => []) (some (.int o)) := by
  refine Ct.of (cc := cX5_drawnFrom) (nL := 1) (ret := (some .int)) (own := RX5) (by decide) (Nat.le_of_ble_eq_true rfl) rfl ?_
  intro p e s m args below meth c A C hr hlk hnm
  refine s_lv (lv1 := [(0, .int a0)]) [0] rfl ?_
  unfold f_X5_drawnFrom at hf
  refine s_iload_n C 1 0 rfl dX5_drawnFrom_0 rfl ?_
  refine s_ldc_w C 4 rfl dX5_drawnFrom_1 uu955 ?_
  refine s_iand C 5 rfl dX5_drawnFrom_4 ?_
  refine s_sipush C 8 rfl dX5_drawnFrom_5 sp_256 ?_
  refine s_idiv C 9 rfl dX5_drawnFrom_8 (by decide) ?_
  obtain rfl := Option.some.inj hf
  exact s_iret C (fun i => i) hr hlk rfl rfl dX5_drawnFrom_9


theorem hd_J6_bitCount_0f7a4 : yJ6_bitCount_0f7a4.cls ≠ "java/lang/invoke/MethodHandle" ∧ yJ6_bitCount_0f7a4.cls ≠ "java/lang/invoke/VarHandle" ∧ (parseMethodDescriptor yJ6_bitCount_0f7a4.desc).map (fun d => d.parameters.length) = some 1 := by decide +kernel
set_option maxHeartbeats 4000000 in
set_option maxRecDepth 100000 in
theorem c_J6_bitCount_0f7a4 (l : Launch) (D : va_G) (cI : ClassId) (adK adV : Nat → Nat)   (a0 : Int32) (o : Int32) (hf : f_J6_bitCount_0f7a4 a0 = some o) : Ct l D cI adK adV yJ6_bitCount_0f7a4 (wy yJ6_bitCount_0f7a4 cJ6_bitCount_0f7a4 1 (some .int)) { frames := 0, cells := 0, slots := 0, locals := 0 } 0 0 [.int a0] [] (fun _ => []) (some (.int o)) := by
  refine Ct.of (cc := cJ6_bitCount_0f7a4) (nL := 1) (ret := (some .int)) (own := RJ6) (by decide) (Nat.le_of_ble_eq_true rfl) rfl ?_
  intro p e s m args below meth c A C hr hlk hnm
  refine s_lv (lv1 := [(0, .int a0)]) [0] rfl ?_
  unfold f_J6_bitCount_0f7a4 at hf
  refine s_iload_n C 1 0 rfl dJ6_bitCount_0f7a4_0 rfl ?_
  refine s_iload_n C 2 0 rfl dJ6_bitCount_0f7a4_1 rfl ?_
  refine s_iconst C 3 rfl dJ6_bitCount_0f7a4_2 ic_1 ?_
  refine s_iushr C 4 rfl dJ6_bitCount_0f7a4_3 ?_
  refine s_ldc_w C 7 rfl dJ6_bitCount_0f7a4_4 uu492 ?_
  refine s_iand C 8 rfl dJ6_bitCount_0f7a4_7 ?_
  refine s_isub C 9 rfl dJ6_bitCount_0f7a4_8 ?_
  refine s_istore_n (lv1 := [(0, .int (a0 - ((jushr a0 (1 : Int32)) &&& (1431655765 : Int32))))]) C 10 0 rfl dJ6_bitCount_0f7a4_9 rfl (Nat.le_of_ble_eq_true rfl) rfl ?_
  refine s_iload_n C 11 0 rfl dJ6_bitCount_0f7a4_10 rfl ?_
  refine s_ldc_w C 14 rfl dJ6_bitCount_0f7a4_11 uu494 ?_
  refine s_iand C 15 rfl dJ6_bitCount_0f7a4_14 ?_
  refine s_iload_n C 16 0 rfl dJ6_bitCount_0f7a4_15 rfl ?_
  refine s_iconst C 17 rfl dJ6_bitCount_0f7a4_16 ic_2 ?_
  refine s_iushr C 18 rfl dJ6_bitCount_0f7a4_17 ?_
  refine s_ldc_w C 21 rfl dJ6_bitCount_0f7a4_18 uu494 ?_
  refine s_iand C 22 rfl dJ6_bitCount_0f7a4_21 ?_
  refine s_iadd C 23 rfl dJ6_bitCount_0f7a4_22 ?_
  refine s_istore_n (lv1 := [(0, .int (((a0 - ((jushr a0 (1 : Int32)) &&& (1431655765 : Int32))) &&& (858993459 : Int32)) + ((jushr (a0 - ((jushr a0 (1 : Int32)) &&& (1431655765 : Int32))) (2 : Int32)) &&& (858993459 : Int32))))]) C 24 0 rfl dJ6_bitCount_0f7a4_23 rfl (Nat.le_of_ble_eq_true rfl) rfl ?_
  refine s_iload_n C 25 0 rfl dJ6_bitCount_0f7a4_24 rfl ?_
  refine s_iload_n C 26 0 rfl dJ6_bitCount_0f7a4_25 rfl ?_
  refine s_iconst C 27 rfl dJ6_bitCount_0f7a4_26 ic_4 ?_
  refine s_iushr C 28 rfl dJ6_bitCount_0f7a4_27 ?_
  refine s_iadd C 29 rfl dJ6_bitCount_0f7a4_28 ?_
  refine s_ldc_w C 32 rfl dJ6_bitCount_0f7a4_29 uu496 ?_
  refine s_iand C 33 rfl dJ6_bitCount_0f7a4_32 ?_
  refine s_istore_n (lv1 := [(0, .int (((((a0 - ((jushr a0 (1 : Int32)) &&& (1431655765 : Int32))) &&& (858993459 : Int32)) + ((jushr (a0 - ((jushr a0 (1 : Int32)) &&& (1431655765 : Int32))) (2 : Int32)) &&& (858993459 : Int32))) + (jushr (((a0 - ((jushr a0 (1 : Int32)) &&& (1431655765 : Int32))) &&& (858993459 : Int32)) + ((jushr (a0 - ((jushr a0 (1 : Int32)) &&& (1431655765 : Int32))) (2 : Int32)) &&& (858993459 : Int32))) (4 : Int32))) &&& (252645135 : Int32)))]) C 34 0 rfl dJ6_bitCount_0f7a4_33 rfl (Nat.le_of_ble_eq_true rfl) rfl ?_
  refine s_iload_n C 35 0 rfl dJ6_bitCount_0f7a4_34 rfl ?_
  refine s_iload_n C 36 0 rfl dJ6_bitCount_0f7a4_35 rfl ?_
  refine s_bipush C 38 rfl dJ6_bitCount_0f7a4_36 bp_8 ?_
  refine s_iushr C 39 rfl dJ6_bitCount_0f7a4_38 ?_
  refine s_iadd C 40 rfl dJ6_bitCount_0f7a4_39 ?_
  refine s_istore_n (lv1 := [(0, .int ((((((a0 - ((jushr a0 (1 : Int32)) &&& (1431655765 : Int32))) &&& (858993459 : Int32)) + ((jushr (a0 - ((jushr a0 (1 : Int32)) &&& (1431655765 : Int32))) (2 : Int32)) &&& (858993459 : Int32))) + (jushr (((a0 - ((jushr a0 (1 : Int32)) &&& (1431655765 : Int32))) &&& (858993459 : Int32)) + ((jushr (a0 - ((jushr a0 (1 : Int32)) &&& (1431655765 : Int32))) (2 : Int32)) &&& (858993459 : Int32))) (4 : Int32))) &&& (252645135 : Int32)) + (jushr (((((a0 - ((jushr a0 (1 : Int32)) &&& (1431655765 : Int32))) &&& (858993459 : Int32)) + ((jushr (a0 - ((jushr a0 (1 : Int32)) &&& (1431655765 : Int32))) (2 : Int32)) &&& (858993459 : Int32))) + (jushr (((a0 - ((jushr a0 (1 : Int32)) &&& (1431655765 : Int32))) &&& (858993459 : Int32)) + ((jushr (a0 - ((jushr a0 (1 : Int32)) &&& (1431655765 : Int32))) (2 : Int32)) &&& (858993459 : Int32))) (4 : Int32))) &&& (252645135 : Int32)) (8 : Int32))))]) C 41 0 rfl dJ6_bitCount_0f7a4_40 rfl (Nat.le_of_ble_eq_true rfl) rfl ?_
  refine s_iload_n C 42 0 rfl dJ6_bitCount_0f7a4_41 rfl ?_
  refine s_iload_n C 43 0 rfl dJ6_bitCount_0f7a4_42 rfl ?_
  refine s_bipush C 45 rfl dJ6_bitCount_0f7a4_43 bp_16 ?_
  refine s_iushr C 46 rfl dJ6_bitCount_0f7a4_45 ?_
  refine s_iadd C 47 rfl dJ6_bitCount_0f7a4_46 ?_
  refine s_istore_n (lv1 := [(0, .int (((((((a0 - ((jushr a0 (1 : Int32)) &&& (1431655765 : Int32))) &&& (858993459 : Int32)) + ((jushr (a0 - ((jushr a0 (1 : Int32)) &&& (1431655765 : Int32))) (2 : Int32)) &&& (858993459 : Int32))) + (jushr (((a0 - ((jushr a0 (1 : Int32)) &&& (1431655765 : Int32))) &&& (858993459 : Int32)) + ((jushr (a0 - ((jushr a0 (1 : Int32)) &&& (1431655765 : Int32))) (2 : Int32)) &&& (858993459 : Int32))) (4 : Int32))) &&& (252645135 : Int32)) + (jushr (((((a0 - ((jushr a0 (1 : Int32)) &&& (1431655765 : Int32))) &&& (858993459 : Int32)) + ((jushr (a0 - ((jushr a0 (1 : Int32)) &&& (1431655765 : Int32))) (2 : Int32)) &&& (858993459 : Int32))) + (jushr (((a0 - ((jushr a0 (1 : Int32)) &&& (1431655765 : Int32))) &&& (858993459 : Int32)) + ((jushr (a0 - ((jushr a0 (1 : Int32)) &&& (1431655765 : Int32))) (2 : Int32)) &&& (858993459 : Int32))) (4 : Int32))) &&& (252645135 : Int32)) (8 : Int32))) + (jushr ((((((a0 - ((jushr a0 (1 : Int32)) &&& (1431655765 : Int32))) &&& (858993459 : Int32)) + ((jushr (a0 - ((jushr a0 (1 : Int32)) &&& (1431655765 : Int32))) (2 : Int32)) &&& (858993459 : Int32))) + (jushr (((a0 - ((jushr a0 (1 : Int32)) &&& (1431655765 : Int32))) &&& (858993459 : Int32)) + ((jushr (a0 - ((jushr a0 (1 : Int32)) &&& (1431655765 : Int32))) (2 : Int32)) &&& (858993459 : Int32))) (4 : Int32))) &&& (252645135 : Int32)) + (jushr (((((a0 - ((jushr a0 (1 : Int32)) &&& (1431655765 : Int32))) &&& (858993459 : Int32)) + ((jushr (a0 - ((jushr a0 (1 : Int32)) &&& (1431655765 : Int32))) (2 : Int32)) &&& (858993459 : Int32))) + (jushr (((a0 - ((jushr a0 (1 : Int32)) &&& (1431655765 : Int32))) &&& (858993459 : Int32)) + ((jushr (a0 - ((jushr a0 (1 : Int32)) &&& (1431655765 : Int32))) (2 : Int32)) &&& (858993459 : Int32))) (4 : Int32))) &&& (252645135 : Int32)) (8 : Int32))) (16 : Int32))))]) C 48 0 rfl dJ6_bitCount_0f7a4_47 rfl (Nat.le_of_ble_eq_true rfl) rfl ?_
  refine s_iload_n C 49 0 rfl dJ6_bitCount_0f7a4_48 rfl ?_
  refine s_bipush C 51 rfl dJ6_bitCount_0f7a4_49 bp_63 ?_
  refine s_iand C 52 rfl dJ6_bitCount_0f7a4_51 ?_
  obtain rfl := Option.some.inj hf
  exact s_iret C (fun i => i) hr hlk rfl rfl dJ6_bitCount_0f7a4_52


theorem hd_X2_cellsOf : yX2_cellsOf.cls ≠ "java/lang/invoke/MethodHandle" ∧ yX2_cellsOf.cls ≠ "java/lang/invoke/VarHandle" ∧ (parseMethodDescriptor yX2_cellsOf.desc).map (fun d => d.parameters.length) = some 2 := by decide +kernel
set_option maxHeartbeats 4000000 in
set_option maxRecDepth 100000 in
theorem c_X2_cellsOf (l : Launch) (D : va_G) (cI : ClassId) (adK adV : Nat → Nat)   (a0 : Int32) (a1 : Int32) (o : Int32) (hf : f_X2_cellsOf a0 a1 = some o) : Ct l D cI adK adV yX2_cellsOf (wy yX2_cellsOf cX2_cellsOf 5 (some .int)) { frames := 1, cells := 0, slots := 0, locals := 20 } 0 0 [.int a0, .int a1] [] (fun _ => []) (some (.int o)) := by
  refine Ct.of (cc := cX2_cellsOf) (nL := 5) (ret := (some .int)) (own := RX2) (by decide) (Nat.le_of_ble_eq_true rfl) rfl ?_
  intro p e s m args below meth c A C hr hlk hnm
  refine s_lv (lv1 := [(0, .int a0), (1, .int a1)]) [0, 1] rfl ?_
  unfold f_X2_cellsOf at hf
  refine s_iload_n C 1 0 rfl dX2_cellsOf_0 rfl ?_
  refine s_if_lt C 16 4 rfl dX2_cellsOf_1 rfl (fun hc27 => ?_) (fun hc27 => ?_)
  · replace hf := ite_t hc27 hf
    refine s_iconst C 17 rfl dX2_cellsOf_16 ic_0 ?_
    obtain rfl := Option.some.inj hf
    exact s_iret C (fun i => i) hr hlk rfl rfl dX2_cellsOf_17
  · replace hf := ite_f hc27 hf
    refine s_iload_n C 5 0 rfl dX2_cellsOf_4 rfl ?_
    refine s_iconst C 6 rfl dX2_cellsOf_5 ic_4 ?_
    refine s_icmp_ge C 16 9 rfl dX2_cellsOf_6 rfl (fun hc26 => ?_) (fun hc26 => ?_)
    · replace hf := ite_t hc26 hf
      refine s_iconst C 17 rfl dX2_cellsOf_16 ic_0 ?_
      obtain rfl := Option.some.inj hf
      exact s_iret C (fun i => i) hr hlk rfl rfl dX2_cellsOf_17
    · replace hf := ite_f hc26 hf
      refine s_iload_n C 10 1 rfl dX2_cellsOf_9 rfl ?_
      obtain ⟨r1, q2, hf⟩ := bn_s hf
      refine s_callN0 (host := RX5) (rest := []) C 13 (c_X5_isCell l D cI adK adV a1 r1 q2) (gC uu433) (by decide +kernel) uu1 uu432 hd_X5_isCell rfl ⟨rfl, rfl⟩ ⟨Nat.le_of_ble_eq_true rfl, Nat.le_of_ble_eq_true rfl⟩ ⟨Nat.le_of_ble_eq_true rfl, Nat.le_of_ble_eq_true rfl⟩ rfl (Nat.le_of_ble_eq_true rfl) rfl dX2_cellsOf_10 ?_
      refine s_if_ne C 18 16 rfl dX2_cellsOf_13 rfl (fun hc25 => ?_) (fun hc25 => ?_)
      · replace hf := ite_f hc25 hf
        refine s_iload_n C 19 0 rfl dX2_cellsOf_18 rfl ?_
        refine s_iconst C 20 rfl dX2_cellsOf_19 ic_2 ?_
        refine s_irem C 21 rfl dX2_cellsOf_20 (by decide) ?_
        refine s_iconst C 22 rfl dX2_cellsOf_21 ic_1 ?_
        refine s_jn (α := Int32) 30 (fun j3 => [(0, .int a0), (1, .int a1)]) (fun j3 => [.int j3]) (fun j3 => []) hf (fun j3 hf => ?_) (fun hj hf => ?_)
        · refine s_istore_n (lv1 := [(2, .int j3), (0, .int a0), (1, .int a1)]) C 31 2 rfl dX2_cellsOf_30 rfl (Nat.le_of_ble_eq_true rfl) rfl ?_
          refine s_iload_n C 32 1 rfl dX2_cellsOf_31 rfl ?_
          refine s_iconst C 33 rfl dX2_cellsOf_32 ic_2 ?_
          refine s_jn (α := Int32) 41 (fun j5 => [(1, .int a1), (2, .int j3)]) (fun j5 => [.int j5]) (fun j5 => []) hf (fun j5 hf => ?_) (fun hj hf => ?_)
          · refine s_istore_n (lv1 := [(3, .int j5), (1, .int a1), (2, .int j3)]) C 42 3 rfl dX2_cellsOf_41 rfl (Nat.le_of_ble_eq_true rfl) rfl ?_
            refine s_iload_n C 43 2 rfl dX2_cellsOf_42 rfl ?_
            refine s_if_eq C 55 46 rfl dX2_cellsOf_43 rfl (fun hc24 => ?_) (fun hc24 => ?_)
            · replace hf := ite_t hc24 hf
              refine s_iload_n C 56 0 rfl dX2_cellsOf_55 rfl ?_
              refine s_if_eq C 68 59 rfl dX2_cellsOf_56 rfl (fun hc14 => ?_) (fun hc14 => ?_)
              · replace hf := ite_t hc14 hf
                refine s_iconst C 69 rfl dX2_cellsOf_68 ic_1 ?_
                refine s_istore (lv1 := [(4, .int (1 : Int32)), (3, .int j5), (1, .int a1), (2, .int j3)]) C 71 4 rfl dX2_cellsOf_69 (Nat.le_of_ble_eq_true rfl) rfl ?_
                refine s_iload_n C 72 3 rfl dX2_cellsOf_71 rfl ?_
                refine s_jn (α := Int32) 84 (fun j7 => [(1, .int a1), (3, .int j5), (4, .int j7)]) (fun j7 => []) (fun j7 => []) hf (fun j7 hf => ?_) (fun hj hf => ?_)
                · refine s_iload_n C 85 1 rfl dX2_cellsOf_84 rfl ?_
                  refine s_if_eq C 97 88 rfl dX2_cellsOf_85 rfl (fun hc9 => ?_) (fun hc9 => ?_)
                  · replace hf := ite_t hc9 hf
                    refine s_iload C 99 2 rfl dX2_cellsOf_97 rfl ?_
                    refine s_iload_n C 100 0 rfl dX2_cellsOf_99 rfl ?_
                    refine s_ishl C 101 rfl dX2_cellsOf_100 ?_
                    obtain rfl := Option.some.inj hf
                    exact s_iret C (fun i => i) hr hlk rfl rfl dX2_cellsOf_101
                  · replace hf := ite_f hc9 hf
                    refine s_iload C 90 2 rfl dX2_cellsOf_88 rfl ?_
                    refine s_iload C 92 2 rfl dX2_cellsOf_90 rfl ?_
                    refine s_iconst C 93 rfl dX2_cellsOf_92 ic_5 ?_
                    refine s_ishl C 94 rfl dX2_cellsOf_93 ?_
                    refine s_ior C 95 rfl dX2_cellsOf_94 ?_
                    refine s_istore (lv1 := [(4, .int (j7 ||| (jshl j7 (5 : Int32)))), (1, .int a1), (3, .int j5)]) C 97 4 rfl dX2_cellsOf_95 (Nat.le_of_ble_eq_true rfl) rfl ?_
                    refine s_iload C 99 0 rfl dX2_cellsOf_97 rfl ?_
                    refine s_iload_n C 100 1 rfl dX2_cellsOf_99 rfl ?_
                    refine s_ishl C 101 rfl dX2_cellsOf_100 ?_
                    obtain rfl := Option.some.inj hf
                    exact s_iret C (fun i => i) hr hlk rfl rfl dX2_cellsOf_101
                · refine s_if_eq C 84 75 rfl dX2_cellsOf_72 rfl (fun hc8 => ?_) (fun hc8 => ?_)
                  · replace hf := jn_t hc8 hf
                    replace hf := jn_i hf
                    exact s_lv [2, 1, 0] rfl (hj ((1 : Int32) : Int32) hf)
                  · replace hf := jn_f hc8 hf
                    refine s_iload C 77 0 rfl dX2_cellsOf_75 rfl ?_
                    refine s_iload C 79 0 rfl dX2_cellsOf_77 rfl ?_
                    refine s_iconst C 80 rfl dX2_cellsOf_79 ic_1 ?_
                    refine s_ishl C 81 rfl dX2_cellsOf_80 ?_
                    refine s_ior C 82 rfl dX2_cellsOf_81 ?_
                    refine s_istore (lv1 := [(4, .int ((1 : Int32) ||| (jshl (1 : Int32) (1 : Int32)))), (3, .int j5), (1, .int a1), (2, .int j3)]) C 84 4 rfl dX2_cellsOf_82 (Nat.le_of_ble_eq_true rfl) rfl ?_
                    replace hf := jn_i hf
                    exact s_lv [2, 1, 0] rfl (hj ((1 : Int32) ||| (jshl (1 : Int32) (1 : Int32)) : Int32) hf)
              · replace hf := ite_f hc14 hf
                refine s_iload_n C 60 1 rfl dX2_cellsOf_59 rfl ?_
                refine s_iconst C 61 rfl dX2_cellsOf_60 ic_5 ?_
                refine s_idiv C 62 rfl dX2_cellsOf_61 (by decide) ?_
                refine s_iconst C 63 rfl dX2_cellsOf_62 ic_4 ?_
                refine s_icmp_ne C 68 66 rfl dX2_cellsOf_63 rfl (fun hc13 => ?_) (fun hc13 => ?_)
                · replace hf := ite_f hc13 hf
                  refine s_iconst C 69 rfl dX2_cellsOf_68 ic_1 ?_
                  refine s_istore (lv1 := [(4, .int (1 : Int32)), (3, .int j5), (1, .int a1), (2, .int j3)]) C 71 4 rfl dX2_cellsOf_69 (Nat.le_of_ble_eq_true rfl) rfl ?_
                  refine s_iload_n C 72 3 rfl dX2_cellsOf_71 rfl ?_
                  refine s_jn (α := Int32) 84 (fun j10 => [(1, .int a1), (3, .int j5), (4, .int j10)]) (fun j10 => []) (fun j10 => []) hf (fun j10 hf => ?_) (fun hj hf => ?_)
                  · refine s_iload_n C 85 1 rfl dX2_cellsOf_84 rfl ?_
                    refine s_if_eq C 97 88 rfl dX2_cellsOf_85 rfl (fun hc12 => ?_) (fun hc12 => ?_)
                    · replace hf := ite_t hc12 hf
                      refine s_iload C 99 2 rfl dX2_cellsOf_97 rfl ?_
                      refine s_iload_n C 100 0 rfl dX2_cellsOf_99 rfl ?_
                      refine s_ishl C 101 rfl dX2_cellsOf_100 ?_
                      obtain rfl := Option.some.inj hf
                      exact s_iret C (fun i => i) hr hlk rfl rfl dX2_cellsOf_101
                    · replace hf := ite_f hc12 hf
                      refine s_iload C 90 2 rfl dX2_cellsOf_88 rfl ?_
                      refine s_iload C 92 2 rfl dX2_cellsOf_90 rfl ?_
                      refine s_iconst C 93 rfl dX2_cellsOf_92 ic_5 ?_
                      refine s_ishl C 94 rfl dX2_cellsOf_93 ?_
                      refine s_ior C 95 rfl dX2_cellsOf_94 ?_
                      refine s_istore (lv1 := [(4, .int (j10 ||| (jshl j10 (5 : Int32)))), (1, .int a1), (3, .int j5)]) C 97 4 rfl dX2_cellsOf_95 (Nat.le_of_ble_eq_true rfl) rfl ?_
                      refine s_iload C 99 0 rfl dX2_cellsOf_97 rfl ?_
                      refine s_iload_n C 100 1 rfl dX2_cellsOf_99 rfl ?_
                      refine s_ishl C 101 rfl dX2_cellsOf_100 ?_
                      obtain rfl := Option.some.inj hf
                      exact s_iret C (fun i => i) hr hlk rfl rfl dX2_cellsOf_101
                  · refine s_if_eq C 84 75 rfl dX2_cellsOf_72 rfl (fun hc11 => ?_) (fun hc11 => ?_)
                    · replace hf := jn_t hc11 hf
                      replace hf := jn_i hf
                      exact s_lv [2, 1, 0] rfl (hj ((1 : Int32) : Int32) hf)
                    · replace hf := jn_f hc11 hf
                      refine s_iload C 77 0 rfl dX2_cellsOf_75 rfl ?_
                      refine s_iload C 79 0 rfl dX2_cellsOf_77 rfl ?_
                      refine s_iconst C 80 rfl dX2_cellsOf_79 ic_1 ?_
                      refine s_ishl C 81 rfl dX2_cellsOf_80 ?_
                      refine s_ior C 82 rfl dX2_cellsOf_81 ?_
                      refine s_istore (lv1 := [(4, .int ((1 : Int32) ||| (jshl (1 : Int32) (1 : Int32)))), (3, .int j5), (1, .int a1), (2, .int j3)]) C 84 4 rfl dX2_cellsOf_82 (Nat.le_of_ble_eq_true rfl) rfl ?_
                      replace hf := jn_i hf
                      exact s_lv [2, 1, 0] rfl (hj ((1 : Int32) ||| (jshl (1 : Int32) (1 : Int32)) : Int32) hf)
                · replace hf := ite_t hc13 hf
                  refine s_iconst C 67 rfl dX2_cellsOf_66 ic_0 ?_
                  obtain rfl := Option.some.inj hf
                  exact s_iret C (fun i => i) hr hlk rfl rfl dX2_cellsOf_67
            · replace hf := ite_f hc24 hf
              refine s_iload_n C 47 1 rfl dX2_cellsOf_46 rfl ?_
              refine s_iconst C 48 rfl dX2_cellsOf_47 ic_5 ?_
              refine s_irem C 49 rfl dX2_cellsOf_48 (by decide) ?_
              refine s_iconst C 50 rfl dX2_cellsOf_49 ic_4 ?_
              refine s_icmp_ne C 55 53 rfl dX2_cellsOf_50 rfl (fun hc23 => ?_) (fun hc23 => ?_)
              · replace hf := ite_f hc23 hf
                refine s_iload_n C 56 0 rfl dX2_cellsOf_55 rfl ?_
                refine s_if_eq C 68 59 rfl dX2_cellsOf_56 rfl (fun hc22 => ?_) (fun hc22 => ?_)
                · replace hf := ite_t hc22 hf
                  refine s_iconst C 69 rfl dX2_cellsOf_68 ic_1 ?_
                  refine s_istore (lv1 := [(4, .int (1 : Int32)), (3, .int j5), (1, .int a1), (2, .int j3)]) C 71 4 rfl dX2_cellsOf_69 (Nat.le_of_ble_eq_true rfl) rfl ?_
                  refine s_iload_n C 72 3 rfl dX2_cellsOf_71 rfl ?_
                  refine s_jn (α := Int32) 84 (fun j15 => [(1, .int a1), (3, .int j5), (4, .int j15)]) (fun j15 => []) (fun j15 => []) hf (fun j15 hf => ?_) (fun hj hf => ?_)
                  · refine s_iload_n C 85 1 rfl dX2_cellsOf_84 rfl ?_
                    refine s_if_eq C 97 88 rfl dX2_cellsOf_85 rfl (fun hc17 => ?_) (fun hc17 => ?_)
                    · replace hf := ite_t hc17 hf
                      refine s_iload C 99 2 rfl dX2_cellsOf_97 rfl ?_
                      refine s_iload_n C 100 0 rfl dX2_cellsOf_99 rfl ?_
                      refine s_ishl C 101 rfl dX2_cellsOf_100 ?_
                      obtain rfl := Option.some.inj hf
                      exact s_iret C (fun i => i) hr hlk rfl rfl dX2_cellsOf_101
                    · replace hf := ite_f hc17 hf
                      refine s_iload C 90 2 rfl dX2_cellsOf_88 rfl ?_
                      refine s_iload C 92 2 rfl dX2_cellsOf_90 rfl ?_
                      refine s_iconst C 93 rfl dX2_cellsOf_92 ic_5 ?_
                      refine s_ishl C 94 rfl dX2_cellsOf_93 ?_
                      refine s_ior C 95 rfl dX2_cellsOf_94 ?_
                      refine s_istore (lv1 := [(4, .int (j15 ||| (jshl j15 (5 : Int32)))), (1, .int a1), (3, .int j5)]) C 97 4 rfl dX2_cellsOf_95 (Nat.le_of_ble_eq_true rfl) rfl ?_
                      refine s_iload C 99 0 rfl dX2_cellsOf_97 rfl ?_
                      refine s_iload_n C 100 1 rfl dX2_cellsOf_99 rfl ?_
                      refine s_ishl C 101 rfl dX2_cellsOf_100 ?_
                      obtain rfl := Option.some.inj hf
                      exact s_iret C (fun i => i) hr hlk rfl rfl dX2_cellsOf_101
                  · refine s_if_eq C 84 75 rfl dX2_cellsOf_72 rfl (fun hc16 => ?_) (fun hc16 => ?_)
                    · replace hf := jn_t hc16 hf
                      replace hf := jn_i hf
                      exact s_lv [2, 1, 0] rfl (hj ((1 : Int32) : Int32) hf)
                    · replace hf := jn_f hc16 hf
                      refine s_iload C 77 0 rfl dX2_cellsOf_75 rfl ?_
                      refine s_iload C 79 0 rfl dX2_cellsOf_77 rfl ?_
                      refine s_iconst C 80 rfl dX2_cellsOf_79 ic_1 ?_
                      refine s_ishl C 81 rfl dX2_cellsOf_80 ?_
                      refine s_ior C 82 rfl dX2_cellsOf_81 ?_
                      refine s_istore (lv1 := [(4, .int ((1 : Int32) ||| (jshl (1 : Int32) (1 : Int32)))), (3, .int j5), (1, .int a1), (2, .int j3)]) C 84 4 rfl dX2_cellsOf_82 (Nat.le_of_ble_eq_true rfl) rfl ?_
                      replace hf := jn_i hf
                      exact s_lv [2, 1, 0] rfl (hj ((1 : Int32) ||| (jshl (1 : Int32) (1 : Int32)) : Int32) hf)
                · replace hf := ite_f hc22 hf
                  refine s_iload_n C 60 1 rfl dX2_cellsOf_59 rfl ?_
                  refine s_iconst C 61 rfl dX2_cellsOf_60 ic_5 ?_
                  refine s_idiv C 62 rfl dX2_cellsOf_61 (by decide) ?_
                  refine s_iconst C 63 rfl dX2_cellsOf_62 ic_4 ?_
                  refine s_icmp_ne C 68 66 rfl dX2_cellsOf_63 rfl (fun hc21 => ?_) (fun hc21 => ?_)
                  · replace hf := ite_f hc21 hf
                    refine s_iconst C 69 rfl dX2_cellsOf_68 ic_1 ?_
                    refine s_istore (lv1 := [(4, .int (1 : Int32)), (3, .int j5), (1, .int a1), (2, .int j3)]) C 71 4 rfl dX2_cellsOf_69 (Nat.le_of_ble_eq_true rfl) rfl ?_
                    refine s_iload_n C 72 3 rfl dX2_cellsOf_71 rfl ?_
                    refine s_jn (α := Int32) 84 (fun j18 => [(1, .int a1), (3, .int j5), (4, .int j18)]) (fun j18 => []) (fun j18 => []) hf (fun j18 hf => ?_) (fun hj hf => ?_)
                    · refine s_iload_n C 85 1 rfl dX2_cellsOf_84 rfl ?_
                      refine s_if_eq C 97 88 rfl dX2_cellsOf_85 rfl (fun hc20 => ?_) (fun hc20 => ?_)
                      · replace hf := ite_t hc20 hf
                        refine s_iload C 99 2 rfl dX2_cellsOf_97 rfl ?_
                        refine s_iload_n C 100 0 rfl dX2_cellsOf_99 rfl ?_
                        refine s_ishl C 101 rfl dX2_cellsOf_100 ?_
                        obtain rfl := Option.some.inj hf
                        exact s_iret C (fun i => i) hr hlk rfl rfl dX2_cellsOf_101
                      · replace hf := ite_f hc20 hf
                        refine s_iload C 90 2 rfl dX2_cellsOf_88 rfl ?_
                        refine s_iload C 92 2 rfl dX2_cellsOf_90 rfl ?_
                        refine s_iconst C 93 rfl dX2_cellsOf_92 ic_5 ?_
                        refine s_ishl C 94 rfl dX2_cellsOf_93 ?_
                        refine s_ior C 95 rfl dX2_cellsOf_94 ?_
                        refine s_istore (lv1 := [(4, .int (j18 ||| (jshl j18 (5 : Int32)))), (1, .int a1), (3, .int j5)]) C 97 4 rfl dX2_cellsOf_95 (Nat.le_of_ble_eq_true rfl) rfl ?_
                        refine s_iload C 99 0 rfl dX2_cellsOf_97 rfl ?_
                        refine s_iload_n C 100 1 rfl dX2_cellsOf_99 rfl ?_
                        refine s_ishl C 101 rfl dX2_cellsOf_100 ?_
                        obtain rfl := Option.some.inj hf
                        exact s_iret C (fun i => i) hr hlk rfl rfl dX2_cellsOf_101
                    · refine s_if_eq C 84 75 rfl dX2_cellsOf_72 rfl (fun hc19 => ?_) (fun hc19 => ?_)
                      · replace hf := jn_t hc19 hf
                        replace hf := jn_i hf
                        exact s_lv [2, 1, 0] rfl (hj ((1 : Int32) : Int32) hf)
                      · replace hf := jn_f hc19 hf
                        refine s_iload C 77 0 rfl dX2_cellsOf_75 rfl ?_
                        refine s_iload C 79 0 rfl dX2_cellsOf_77 rfl ?_
                        refine s_iconst C 80 rfl dX2_cellsOf_79 ic_1 ?_
                        refine s_ishl C 81 rfl dX2_cellsOf_80 ?_
                        refine s_ior C 82 rfl dX2_cellsOf_81 ?_
                        refine s_istore (lv1 := [(4, .int ((1 : Int32) ||| (jshl (1 : Int32) (1 : Int32)))), (3, .int j5), (1, .int a1), (2, .int j3)]) C 84 4 rfl dX2_cellsOf_82 (Nat.le_of_ble_eq_true rfl) rfl ?_
                        replace hf := jn_i hf
                        exact s_lv [2, 1, 0] rfl (hj ((1 : Int32) ||| (jshl (1 : Int32) (1 : Int32)) : Int32) hf)
                  · replace hf := ite_t hc21 hf
                    refine s_iconst C 67 rfl dX2_cellsOf_66 ic_0 ?_
                    obtain rfl := Option.some.inj hf
                    exact s_iret C (fun i => i) hr hlk rfl rfl dX2_cellsOf_67
              · replace hf := ite_t hc23 hf
                refine s_iconst C 54 rfl dX2_cellsOf_53 ic_0 ?_
                obtain rfl := Option.some.inj hf
                exact s_iret C (fun i => i) hr hlk rfl rfl dX2_cellsOf_54
          · refine s_icmp_lt C 40 36 rfl dX2_cellsOf_33 rfl (fun hc6 => ?_) (fun hc6 => ?_)
            · replace hf := jn_t hc6 hf
              refine s_iconst C 41 rfl dX2_cellsOf_40 ic_0 ?_
              replace hf := jn_i hf
              exact s_lv [2, 0] rfl (hj ((0 : Int32) : Int32) hf)
            · replace hf := jn_f hc6 hf
              refine s_iconst C 37 rfl dX2_cellsOf_36 ic_1 ?_
              refine s_goto C 41 dX2_cellsOf_37 rfl ?_
              replace hf := jn_i hf
              exact s_lv [2, 0] rfl (hj ((1 : Int32) : Int32) hf)
        · refine s_icmp_ne C 29 25 rfl dX2_cellsOf_22 rfl (fun hc4 => ?_) (fun hc4 => ?_)
          · replace hf := jn_f hc4 hf
            refine s_iconst C 30 rfl dX2_cellsOf_29 ic_0 ?_
            replace hf := jn_i hf
            exact s_lv [0, 1] rfl (hj ((0 : Int32) : Int32) hf)
          · replace hf := jn_t hc4 hf
            refine s_iconst C 26 rfl dX2_cellsOf_25 ic_1 ?_
            refine s_goto C 30 dX2_cellsOf_26 rfl ?_
            replace hf := jn_i hf
            exact s_lv [0, 1] rfl (hj ((1 : Int32) : Int32) hf)
      · replace hf := ite_t hc25 hf
        refine s_iconst C 17 rfl dX2_cellsOf_16 ic_0 ?_
        obtain rfl := Option.some.inj hf
        exact s_iret C (fun i => i) hr hlk rfl rfl dX2_cellsOf_17


theorem hd_X2_behind : yX2_behind.cls ≠ "java/lang/invoke/MethodHandle" ∧ yX2_behind.cls ≠ "java/lang/invoke/VarHandle" ∧ (parseMethodDescriptor yX2_behind.desc).map (fun d => d.parameters.length) = some 2 := by decide +kernel
set_option maxHeartbeats 4000000 in
set_option maxRecDepth 100000 in
theorem c_X2_behind (l : Launch) (D : va_G) (cI : ClassId) (adK adV : Nat → Nat)   (a0 : Int32) (a1 : Int32) (o : Int32) (hf : f_X2_behind a0 a1 = some o) : Ct l D cI adK adV yX2_behind (wy yX2_behind cX2_behind 3 (some .int)) { frames := 2, cells := 0, slots := 0, locals := 44 } 0 0 [.int a0, .int a1] [] (fun _ => []) (some (.int o)) := by
  refine Ct.of (cc := cX2_behind) (nL := 3) (ret := (some .int)) (own := RX2) (by decide) (Nat.le_of_ble_eq_true rfl) rfl ?_
  intro p e s m args below meth c A C hr hlk hnm
  refine s_lv (lv1 := [(0, .int a0), (1, .int a1)]) [0, 1] rfl ?_
  unfold f_X2_behind at hf
  refine s_iload_n C 1 0 rfl dX2_behind_0 rfl ?_
  refine s_if_ge C 6 4 rfl dX2_behind_1 rfl (fun hc4 => ?_) (fun hc4 => ?_)
  · replace hf := ite_t hc4 hf
    refine s_iload_n C 7 0 rfl dX2_behind_6 rfl ?_
    refine s_bipush C 9 rfl dX2_behind_7 bp_25 ?_
    refine s_idiv C 10 rfl dX2_behind_9 (by decide) ?_
    refine s_iload_n C 11 0 rfl dX2_behind_10 rfl ?_
    refine s_bipush C 13 rfl dX2_behind_11 bp_25 ?_
    refine s_irem C 14 rfl dX2_behind_13 (by decide) ?_
    obtain ⟨r1, q2, hf⟩ := bn_s hf
    refine s_callS0 (host := "") (rest := []) C 17 (c_X2_cellsOf l D cI adK adV (a0 / (25 : Int32)) (jrem a0 (25 : Int32)) r1 q2) (gS uu662 uu428 uu14 uu429) hd_X2_cellsOf rfl ⟨rfl, rfl⟩ ⟨Nat.le_of_ble_eq_true rfl, Nat.le_of_ble_eq_true rfl⟩ ⟨Nat.le_of_ble_eq_true rfl, Nat.le_of_ble_eq_true rfl⟩ rfl (Nat.le_of_ble_eq_true rfl) rfl dX2_behind_14 ?_
    refine s_istore_n (lv1 := [(2, .int r1), (0, .int a0), (1, .int a1)]) C 18 2 rfl dX2_behind_17 rfl (Nat.le_of_ble_eq_true rfl) rfl ?_
    refine s_iload_n C 19 2 rfl dX2_behind_18 rfl ?_
    refine s_iload_n C 20 0 rfl dX2_behind_19 rfl ?_
    refine s_iand C 21 rfl dX2_behind_20 ?_
    refine s_iload_n C 22 0 rfl dX2_behind_21 rfl ?_
    refine s_icmp_ne C 33 25 rfl dX2_behind_22 rfl (fun hc3 => ?_) (fun hc3 => ?_)
    · replace hf := ite_f hc3 hf
      refine s_iload_n C 34 2 rfl dX2_behind_33 rfl ?_
      obtain rfl := Option.some.inj hf
      exact s_iret C (fun i => i) hr hlk rfl rfl dX2_behind_34
    · replace hf := ite_t hc3 hf
      refine s_iload_n C 26 2 rfl dX2_behind_25 rfl ?_
      refine s_iload_n C 27 0 rfl dX2_behind_26 rfl ?_
      refine s_iconst C 28 rfl dX2_behind_27 ic_m1 ?_
      refine s_ixor C 29 rfl dX2_behind_28 ?_
      refine s_iand C 30 rfl dX2_behind_29 ?_
      refine s_goto C 34 dX2_behind_30 rfl ?_
      obtain rfl := Option.some.inj hf
      exact s_iret C (fun i => i) hr hlk rfl rfl dX2_behind_34
  · replace hf := ite_f hc4 hf
    refine s_iload_n C 5 1 rfl dX2_behind_4 rfl ?_
    obtain rfl := Option.some.inj hf
    exact s_iret C (fun i => i) hr hlk rfl rfl dX2_behind_5


theorem hd_X2_openSides : yX2_openSides.cls ≠ "java/lang/invoke/MethodHandle" ∧ yX2_openSides.cls ≠ "java/lang/invoke/VarHandle" ∧ (parseMethodDescriptor yX2_openSides.desc).map (fun d => d.parameters.length) = some 1 := by decide +kernel
set_option maxHeartbeats 4000000 in
set_option maxRecDepth 100000 in
theorem c_X2_openSides (l : Launch) (D : va_G) (cI : ClassId) (adK adV : Nat → Nat)   (a0 : Int32) (o : Int32) (hf : f_X2_openSides a0 = some o) : Ct l D cI adK adV yX2_openSides (wy yX2_openSides cX2_openSides 3 (some .int)) { frames := 1, cells := 0, slots := 0, locals := 20 } 0 0 [.int a0] [] (fun _ => []) (some (.int o)) := by
  refine Ct.of (cc := cX2_openSides) (nL := 3) (ret := (some .int)) (own := RX2) (by decide) (Nat.le_of_ble_eq_true rfl) rfl ?_
  intro p e s m args below meth c A C hr hlk hnm
  refine s_lv (lv1 := [(0, .int a0)]) [0] rfl ?_
  unfold f_X2_openSides at hf
  refine s_iload_n C 1 0 rfl dX2_openSides_0 rfl ?_
  refine s_ldc C 3 rfl dX2_openSides_1 uu483 ?_
  refine s_iand C 4 rfl dX2_openSides_3 ?_
  refine s_iconst C 5 rfl dX2_openSides_4 ic_1 ?_
  refine s_ishl C 6 rfl dX2_openSides_5 ?_
  refine s_iload_n C 7 0 rfl dX2_openSides_6 rfl ?_
  refine s_iand C 8 rfl dX2_openSides_7 ?_
  refine s_istore_n (lv1 := [(1, .int ((jshl (a0 &&& (-17318417 : Int32)) (1 : Int32)) &&& a0)), (0, .int a0)]) C 9 1 rfl dX2_openSides_8 rfl (Nat.le_of_ble_eq_true rfl) rfl ?_
  refine s_iload_n C 10 1 rfl dX2_openSides_9 rfl ?_
  refine s_iconst C 11 rfl dX2_openSides_10 ic_5 ?_
  refine s_ishl C 12 rfl dX2_openSides_11 ?_
  refine s_iload_n C 13 1 rfl dX2_openSides_12 rfl ?_
  refine s_iand C 14 rfl dX2_openSides_13 ?_
  refine s_istore_n (lv1 := [(2, .int ((jshl a0 (5 : Int32)) &&& a0)), (1, .int ((jshl (a0 &&& (-17318417 : Int32)) (1 : Int32)) &&& a0)), (0, .int a0)]) C 15 2 rfl dX2_openSides_14 rfl (Nat.le_of_ble_eq_true rfl) rfl ?_
  refine s_iconst C 16 rfl dX2_openSides_15 ic_4 ?_
  refine s_iload_n C 17 2 rfl dX2_openSides_16 rfl ?_
  obtain ⟨r1, q2, hf⟩ := bn_s hf
  refine s_callS0 (host := "") (rest := [.int (4 : Int32)]) C 20 (c_J6_bitCount_0f7a4 l D cI adK adV a0 r1 q2) (gS uu629 uu489 uu15 uu490) hd_J6_bitCount_0f7a4 rfl ⟨rfl, rfl⟩ ⟨Nat.le_of_ble_eq_true rfl, Nat.le_of_ble_eq_true rfl⟩ ⟨Nat.le_of_ble_eq_true rfl, Nat.le_of_ble_eq_true rfl⟩ rfl (Nat.le_of_ble_eq_true rfl) rfl dX2_openSides_17 ?_
  refine s_imul C 21 rfl dX2_openSides_20 ?_
  refine s_iconst C 22 rfl dX2_openSides_21 ic_2 ?_
  refine s_iload_n C 23 1 rfl dX2_openSides_22 rfl ?_
  obtain ⟨r3, q4, hf⟩ := bn_s hf
  refine s_callS0 (host := "") (rest := [.int (2 : Int32), .int ((4 : Int32) * r1)]) C 26 (c_J6_bitCount_0f7a4 l D cI adK adV ((jshl (a0 &&& (-17318417 : Int32)) (1 : Int32)) &&& a0) r3 q4) (gS uu629 uu489 uu15 uu490) hd_J6_bitCount_0f7a4 rfl ⟨rfl, rfl⟩ ⟨Nat.le_of_ble_eq_true rfl, Nat.le_of_ble_eq_true rfl⟩ ⟨Nat.le_of_ble_eq_true rfl, Nat.le_of_ble_eq_true rfl⟩ rfl (Nat.le_of_ble_eq_true rfl) rfl dX2_openSides_23 ?_
  refine s_iload_n C 27 0 rfl dX2_openSides_26 rfl ?_
  obtain ⟨r5, q6, hf⟩ := bn_s hf
  refine s_callS0 (host := "") (rest := [.int r3, .int (2 : Int32), .int ((4 : Int32) * r1)]) C 30 (c_J6_bitCount_0f7a4 l D cI adK adV ((jshl a0 (5 : Int32)) &&& a0) r5 q6) (gS uu629 uu489 uu15 uu490) hd_J6_bitCount_0f7a4 rfl ⟨rfl, rfl⟩ ⟨Nat.le_of_ble_eq_true rfl, Nat.le_of_ble_eq_true rfl⟩ ⟨Nat.le_of_ble_eq_true rfl, Nat.le_of_ble_eq_true rfl⟩ rfl (Nat.le_of_ble_eq_true rfl) rfl dX2_openSides_27 ?_
  refine s_iadd C 31 rfl dX2_openSides_30 ?_
  refine s_imul C 32 rfl dX2_openSides_31 ?_
  refine s_isub C 33 rfl dX2_openSides_32 ?_
  obtain rfl := Option.some.inj hf
  exact s_iret C (fun i => i) hr hlk rfl rfl dX2_openSides_33


theorem hd_X2_leastCell : yX2_leastCell.cls ≠ "java/lang/invoke/MethodHandle" ∧ yX2_leastCell.cls ≠ "java/lang/invoke/VarHandle" ∧ (parseMethodDescriptor yX2_leastCell.desc).map (fun d => d.parameters.length) = some 1 := by decide +kernel
set_option maxHeartbeats 4000000 in
set_option maxRecDepth 100000 in
theorem c_X2_leastCell (l : Launch) (D : va_G) (cI : ClassId) (adK adV : Nat → Nat)   (a0 : Int32) (o : Int32) (hf : f_X2_leastCell a0 = some o) : Ct l D cI adK adV yX2_leastCell (wy yX2_leastCell cX2_leastCell 1 (some .int)) { frames := 1, cells := 0, slots := 0, locals := 20 } 0 0 [.int a0] [] (fun _ => []) (some (.int o)) := by
  refine Ct.of (cc := cX2_leastCell) (nL := 1) (ret := (some .int)) (own := RX2) (by decide) (Nat.le_of_ble_eq_true rfl) rfl ?_
  intro p e s m args below meth c A C hr hlk hnm
  refine s_lv (lv1 := [(0, .int a0)]) [0] rfl ?_
  unfold f_X2_leastCell at hf
  refine s_iload_n C 1 0 rfl dX2_leastCell_0 rfl ?_
  refine s_iload_n C 2 0 rfl dX2_leastCell_1 rfl ?_
  refine s_ineg C 3 rfl dX2_leastCell_2 ?_
  refine s_iand C 4 rfl dX2_leastCell_3 ?_
  refine s_iconst C 5 rfl dX2_leastCell_4 ic_1 ?_
  refine s_isub C 6 rfl dX2_leastCell_5 ?_
  obtain ⟨r1, q2, hf⟩ := bn_s hf
  refine s_callS0 (host := "") (rest := []) C 9 (c_J6_bitCount_0f7a4 l D cI adK adV ((a0 &&& (-a0)) - (1 : Int32)) r1 q2) (gS uu629 uu489 uu15 uu490) hd_J6_bitCount_0f7a4 rfl ⟨rfl, rfl⟩ ⟨Nat.le_of_ble_eq_true rfl, Nat.le_of_ble_eq_true rfl⟩ ⟨Nat.le_of_ble_eq_true rfl, Nat.le_of_ble_eq_true rfl⟩ rfl (Nat.le_of_ble_eq_true rfl) rfl dX2_leastCell_6 ?_
  obtain rfl := Option.some.inj hf
  exact s_iret C (fun i => i) hr hlk rfl rfl dX2_leastCell_9


theorem hd_X2_middleOf : yX2_middleOf.cls ≠ "java/lang/invoke/MethodHandle" ∧ yX2_middleOf.cls ≠ "java/lang/invoke/VarHandle" ∧ (parseMethodDescriptor yX2_middleOf.desc).map (fun d => d.parameters.length) = some 1 := by decide +kernel
set_option maxHeartbeats 4000000 in
set_option maxRecDepth 100000 in
theorem c_X2_middleOf (l : Launch) (D : va_G) (cI : ClassId) (adK adV : Nat → Nat)   (a0 : Int32) (o : Int32) (hf : f_X2_middleOf a0 = some o) : Ct l D cI adK adV yX2_middleOf (wy yX2_middleOf cX2_middleOf 5 (some .int)) { frames := 2, cells := 0, slots := 0, locals := 47 } 0 0 [.int a0] [] (fun _ => []) (some (.int o)) := by
  refine Ct.of (cc := cX2_middleOf) (nL := 5) (ret := (some .int)) (own := RX2) (by decide) (Nat.le_of_ble_eq_true rfl) rfl ?_
  intro p e s m args below meth c A C hr hlk hnm
  refine s_lv (lv1 := [(0, .int a0)]) [0] rfl ?_
  unfold f_X2_middleOf at hf
  refine s_bipush C 2 rfl dX2_middleOf_0 bp_m9 ?_
  refine s_istore_n (lv1 := [(1, .int (-9 : Int32)), (0, .int a0)]) C 3 1 rfl dX2_middleOf_2 rfl (Nat.le_of_ble_eq_true rfl) rfl ?_
  refine s_iconst C 4 rfl dX2_middleOf_3 ic_0 ?_
  refine s_istore_n (lv1 := [(2, .int (0 : Int32)), (1, .int (-9 : Int32)), (0, .int a0)]) C 5 2 rfl dX2_middleOf_4 rfl (Nat.le_of_ble_eq_true rfl) rfl ?_
  refine s_iconst C 6 rfl dX2_middleOf_5 ic_0 ?_
  refine s_istore_n (lv1 := [(3, .int (0 : Int32)), (2, .int (0 : Int32)), (1, .int (-9 : Int32)), (0, .int a0)]) C 7 3 rfl dX2_middleOf_6 rfl (Nat.le_of_ble_eq_true rfl) rfl ?_
  refine s_lv (lv1 := [(0, .int a0), (1, .int (-9 : Int32)), (2, .int (0 : Int32)), (3, .int (0 : Int32))]) [3, 2, 1, 0] rfl ?_
  refine s_loop (α := Int32 × Int32 × Int32) (fun n v8 => f_X2_middleOf_7 a0 n v8.1 v8.2.1 v8.2.2) 7 (fun v8 => [(0, .int a0), (1, .int v8.1), (2, .int v8.2.1), (3, .int v8.2.2)]) (fun v8 => []) 1000 ((-9 : Int32), (0 : Int32), (0 : Int32)) hf (fun v8 hf => by simp only [f_X2_middleOf_7] at hf; exact absurd hf (by simp)) (fun n ih9 v8 hf => ?_)
  replace hf := (f_X2_middleOf_7_s _ _ _ _ _).symm.trans hf
  refine s_iload_n C 8 3 rfl dX2_middleOf_7 rfl ?_
  refine s_bipush C 10 rfl dX2_middleOf_8 bp_25 ?_
  refine s_icmp_ge C 54 13 rfl dX2_middleOf_10 rfl (fun hc16 => ?_) (fun hc16 => ?_)
  · replace hf := ite_t hc16 hf
    refine s_iload_n C 55 1 rfl dX2_middleOf_54 rfl ?_
    obtain rfl := Option.some.inj hf
    exact s_iret C (fun i => i) hr hlk rfl rfl dX2_middleOf_55
  · replace hf := ite_f hc16 hf
    refine s_iload_n C 14 0 rfl dX2_middleOf_13 rfl ?_
    refine s_iconst C 15 rfl dX2_middleOf_14 ic_1 ?_
    refine s_iload_n C 16 3 rfl dX2_middleOf_15 rfl ?_
    refine s_ishl C 17 rfl dX2_middleOf_16 ?_
    refine s_iand C 18 rfl dX2_middleOf_17 ?_
    refine s_bn (α := Int32 × Int32) 48 (fun j10 => [(0, .int a0), (1, .int j10.1), (2, .int j10.2), (3, .int v8.2.2)]) (fun j10 => []) (fun j10 => []) hf (fun j10 hf => ?_) (fun hj hf => ?_)
    · refine s_iinc (lv1 := [(3, .int (v8.2.2 + (1 : Int32))), (0, .int a0), (1, .int j10.1), (2, .int j10.2)]) C 51 3 3 rfl dX2_middleOf_48 rfl ic_1 (Nat.le_of_ble_eq_true rfl) rfl ?_
      refine s_goto C 7 dX2_middleOf_51 rfl ?_
      exact s_lv [1, 2, 3, 0] rfl (ih9 ((j10.1, j10.2, v8.2.2 + (1 : Int32)) : Int32 × Int32 × Int32) hf)
    · refine s_if_ne C 24 21 rfl dX2_middleOf_18 rfl (fun hc15 => ?_) (fun hc15 => ?_)
      · replace hf := bn_f hc15 hf
        refine s_iload_n C 25 3 rfl dX2_middleOf_24 rfl ?_
        refine s_iload_n C 26 0 rfl dX2_middleOf_25 rfl ?_
        obtain ⟨r11, q12, hf⟩ := bn_b hf
        refine s_callS0 (host := "") (rest := []) C 29 (c_X2_stepsToAll l D cI adK adV v8.2.2 a0 r11 q12) (gS uu773 uu775 uu14 uu776) hd_X2_stepsToAll rfl ⟨rfl, rfl⟩ ⟨Nat.le_of_ble_eq_true rfl, Nat.le_of_ble_eq_true rfl⟩ ⟨Nat.le_of_ble_eq_true rfl, Nat.le_of_ble_eq_true rfl⟩ rfl (Nat.le_of_ble_eq_true rfl) rfl dX2_middleOf_26 ?_
        refine s_istore (lv1 := [(4, .int r11), (0, .int a0), (1, .int v8.1), (2, .int v8.2.1), (3, .int v8.2.2)]) C 31 4 rfl dX2_middleOf_29 (Nat.le_of_ble_eq_true rfl) rfl ?_
        refine s_iload_n C 32 2 rfl dX2_middleOf_31 rfl ?_
        refine s_bipush C 34 rfl dX2_middleOf_32 bp_m9 ?_
        refine s_icmp_eq C 43 37 rfl dX2_middleOf_34 rfl (fun hc14 => ?_) (fun hc14 => ?_)
        · replace hf := bn_t hc14 hf
          refine s_iload_n C 44 4 rfl dX2_middleOf_43 rfl ?_
          refine s_istore_n (lv1 := [(1, .int v8.2.2), (4, .int r11), (0, .int a0), (2, .int v8.2.1), (3, .int v8.2.2)]) C 45 1 rfl dX2_middleOf_44 rfl (Nat.le_of_ble_eq_true rfl) rfl ?_
          refine s_iload C 47 1 rfl dX2_middleOf_45 rfl ?_
          refine s_istore_n (lv1 := [(2, .int r11), (1, .int v8.2.2), (4, .int r11), (0, .int a0), (3, .int v8.2.2)]) C 48 2 rfl dX2_middleOf_47 rfl (Nat.le_of_ble_eq_true rfl) rfl ?_
          replace hf := bn_i hf
          exact s_lv [3, 1, 0, 4] rfl (hj ((v8.2.2, r11) : Int32 × Int32) hf)
        · replace hf := bn_f hc14 hf
          refine s_iload C 39 0 rfl dX2_middleOf_37 rfl ?_
          refine s_iload_n C 40 3 rfl dX2_middleOf_39 rfl ?_
          refine s_icmp_ge C 48 43 rfl dX2_middleOf_40 rfl (fun hc13 => ?_) (fun hc13 => ?_)
          · replace hf := bn_t hc13 hf
            replace hf := bn_i hf
            exact s_lv [1, 2, 3, 4] rfl (hj ((v8.1, v8.2.1) : Int32 × Int32) hf)
          · replace hf := bn_f hc13 hf
            refine s_iload_n C 44 4 rfl dX2_middleOf_43 rfl ?_
            refine s_istore_n (lv1 := [(1, .int v8.2.2), (4, .int r11), (0, .int a0), (2, .int v8.2.1), (3, .int v8.2.2)]) C 45 1 rfl dX2_middleOf_44 rfl (Nat.le_of_ble_eq_true rfl) rfl ?_
            refine s_iload C 47 1 rfl dX2_middleOf_45 rfl ?_
            refine s_istore_n (lv1 := [(2, .int r11), (1, .int v8.2.2), (4, .int r11), (0, .int a0), (3, .int v8.2.2)]) C 48 2 rfl dX2_middleOf_47 rfl (Nat.le_of_ble_eq_true rfl) rfl ?_
            replace hf := bn_i hf
            exact s_lv [3, 1, 0, 4] rfl (hj ((v8.2.2, r11) : Int32 × Int32) hf)
      · replace hf := bn_t hc15 hf
        refine s_goto C 48 dX2_middleOf_21 rfl ?_
        replace hf := bn_i hf
        exact s_lv [0, 1, 2, 3] rfl (hj ((v8.1, v8.2.1) : Int32 × Int32) hf)

