
theorem hd_X6_isIn : yX6_isIn.cls ≠ "java/lang/invoke/MethodHandle" ∧ yX6_isIn.cls ≠ "java/lang/invoke/VarHandle" ∧ (parseMethodDescriptor yX6_isIn.desc).map (fun d => d.parameters.length) = some 3 := by decide +kernel
set_option maxHeartbeats 4000000 in
set_option maxRecDepth 100000 in
theorem c_X6_isIn (l : Launch) (D : va_G) (cI : ClassId) (adK adV : Nat → Nat)   (a0 : Int32) (a1 : Int32) (a2 : Int32) (o : Int32) (hf : f_X6_isIn a0 a1 a2 = some o) : Ct l D cI adK adV yX6_isIn (wy yX6_isIn cX6_isIn 3 (some .boolean)) { frames := 0, cells := 0, slots := 0, locals := 0 } 0 0 [.int a0, .int a1, .int a2] [] (fun _ => []) (some (.int o)) := by
  refine Ct.of (cc := cX6_isIn) (nL := 3) (ret := (some .boolean)) (own := RX6) (by decide) (Nat.le_of_ble_eq_true rfl) rfl ?_
  intro p e s m args below meth c A C hr hlk hnm
  refine s_lv (lv1 := [(0, .int a0), (1, .int a1), (2, .int a2)]) [0, 1, 2] rfl ?_
  unfold f_X6_isIn at hf
  refine s_iload_n C 1 0 rfl dX6_isIn_0 rfl ?_
  refine s_iload_n C 2 1 rfl dX6_isIn_1 rfl ?_
  refine s_icmp_lt C 14 5 rfl dX6_isIn_2 rfl (fun hc2 => ?_) (fun hc2 => ?_)
  · replace hf := ite_t hc2 hf
    refine s_iconst C 15 rfl dX6_isIn_14 ic_0 ?_
    obtain rfl := Option.some.inj hf
    exact s_zret C (fun i => i) hr hlk (Or.inl rfl) rfl rfl dX6_isIn_15
  · replace hf := ite_f hc2 hf
    refine s_iload_n C 6 0 rfl dX6_isIn_5 rfl ?_
    refine s_iload_n C 7 2 rfl dX6_isIn_6 rfl ?_
    refine s_icmp_gt C 14 10 rfl dX6_isIn_7 rfl (fun hc1 => ?_) (fun hc1 => ?_)
    · replace hf := ite_t hc1 hf
      refine s_iconst C 15 rfl dX6_isIn_14 ic_0 ?_
      obtain rfl := Option.some.inj hf
      exact s_zret C (fun i => i) hr hlk (Or.inl rfl) rfl rfl dX6_isIn_15
    · replace hf := ite_f hc1 hf
      refine s_iconst C 11 rfl dX6_isIn_10 ic_1 ?_
      refine s_goto C 15 dX6_isIn_11 rfl ?_
      obtain rfl := Option.some.inj hf
      exact s_zret C (fun i => i) hr hlk (Or.inr rfl) rfl rfl dX6_isIn_15


theorem hd_X6_least : yX6_least.cls ≠ "java/lang/invoke/MethodHandle" ∧ yX6_least.cls ≠ "java/lang/invoke/VarHandle" ∧ (parseMethodDescriptor yX6_least.desc).map (fun d => d.parameters.length) = some 2 := by decide +kernel
set_option maxHeartbeats 4000000 in
set_option maxRecDepth 100000 in
theorem c_X6_least (l : Launch) (D : va_G) (cI : ClassId) (adK adV : Nat → Nat)   (a0 : Int32) (a1 : Int32) (o : Int32) (hf : f_X6_least a0 a1 = some o) : Ct l D cI adK adV yX6_least (wy yX6_least cX6_least 2 (some .int)) { frames := 0, cells := 0, slots := 0, locals := 0 } 0 0 [.int a0, .int a1] [] (fun _ => []) (some (.int o)) := by
  refine Ct.of (cc := cX6_least) (nL := 2) (ret := (some .int)) (own := RX6) (by decide) (Nat.le_of_ble_eq_true rfl) rfl ?_
  intro p e s m args below meth c A C hr hlk hnm
  refine s_lv (lv1 := [(0, .int a0), (1, .int a1)]) [0, 1] rfl ?_
  unfold f_X6_least at hf
  refine s_iload_n C 1 0 rfl dX6_least_0 rfl ?_
  refine s_iload_n C 2 1 rfl dX6_least_1 rfl ?_
  refine s_icmp_ge C 9 5 rfl dX6_least_2 rfl (fun hc1 => ?_) (fun hc1 => ?_)
  · replace hf := ite_t hc1 hf
    refine s_iload_n C 10 1 rfl dX6_least_9 rfl ?_
    obtain rfl := Option.some.inj hf
    exact s_iret C (fun i => i) hr hlk rfl rfl dX6_least_10
  · replace hf := ite_f hc1 hf
    refine s_iload_n C 6 0 rfl dX6_least_5 rfl ?_
    refine s_goto C 10 dX6_least_6 rfl ?_
    obtain rfl := Option.some.inj hf
    exact s_iret C (fun i => i) hr hlk rfl rfl dX6_least_10


theorem hd_X6_isCell : yX6_isCell.cls ≠ "java/lang/invoke/MethodHandle" ∧ yX6_isCell.cls ≠ "java/lang/invoke/VarHandle" ∧ (parseMethodDescriptor yX6_isCell.desc).map (fun d => d.parameters.length) = some 1 := by decide +kernel
set_option maxHeartbeats 4000000 in
set_option maxRecDepth 100000 in
theorem c_X6_isCell (l : Launch) (D : va_G) (cI : ClassId) (adK adV : Nat → Nat)   (a0 : Int32) (o : Int32) (hf : f_X6_isCell a0 = some o) : Ct l D cI adK adV yX6_isCell (wy yX6_isCell cX6_isCell 1 (some .boolean)) { frames := 1, cells := 0, slots := 0, locals := 22 } 0 0 [.int a0] [] (fun _ => []) (some (.int o)) := by
  refine Ct.of (cc := cX6_isCell) (nL := 1) (ret := (some .boolean)) (own := RX6) (by decide) (Nat.le_of_ble_eq_true rfl) rfl ?_
  intro p e s m args below meth c A C hr hlk hnm
  refine s_lv (lv1 := [(0, .int a0)]) [0] rfl ?_
  unfold f_X6_isCell at hf
  refine s_iload_n C 1 0 rfl dX6_isCell_0 rfl ?_
  refine s_iconst C 2 rfl dX6_isCell_1 ic_0 ?_
  refine s_bipush C 4 rfl dX6_isCell_2 bp_24 ?_
  obtain ⟨r1, q2, hf⟩ := bn_s hf
  refine s_callS0 (host := "") (rest := []) C 7 (c_X6_isIn l D cI adK adV a0 (0 : Int32) (24 : Int32) r1 q2) (gS uu1106 uu1108 uu6 uu1109) hd_X6_isIn rfl ⟨rfl, rfl⟩ ⟨Nat.le_of_ble_eq_true rfl, Nat.le_of_ble_eq_true rfl⟩ ⟨Nat.le_of_ble_eq_true rfl, Nat.le_of_ble_eq_true rfl⟩ rfl (Nat.le_of_ble_eq_true rfl) rfl dX6_isCell_4 ?_
  obtain ⟨h3, hf⟩ := ck_isb hf
  obtain rfl := Option.some.inj hf
  exact s_zret C (fun i => i) hr hlk h3 rfl rfl dX6_isCell_7


theorem hd_X6_has : yX6_has.cls ≠ "java/lang/invoke/MethodHandle" ∧ yX6_has.cls ≠ "java/lang/invoke/VarHandle" ∧ (parseMethodDescriptor yX6_has.desc).map (fun d => d.parameters.length) = some 2 := by decide +kernel
set_option maxHeartbeats 4000000 in
set_option maxRecDepth 100000 in
theorem c_X6_has (l : Launch) (D : va_G) (cI : ClassId) (adK adV : Nat → Nat)   (a0 : Int32) (a1 : Int32) (o : Int32) (hf : f_X6_has a0 a1 = some o) : Ct l D cI adK adV yX6_has (wy yX6_has cX6_has 2 (some .boolean)) { frames := 0, cells := 0, slots := 0, locals := 0 } 0 0 [.int a0, .int a1] [] (fun _ => []) (some (.int o)) := by
  refine Ct.of (cc := cX6_has) (nL := 2) (ret := (some .boolean)) (own := RX6) (by decide) (Nat.le_of_ble_eq_true rfl) rfl ?_
  intro p e s m args below meth c A C hr hlk hnm
  refine s_lv (lv1 := [(0, .int a0), (1, .int a1)]) [0, 1] rfl ?_
  unfold f_X6_has at hf
  refine s_iload_n C 1 0 rfl dX6_has_0 rfl ?_
  refine s_iload_n C 2 1 rfl dX6_has_1 rfl ?_
  refine s_ishr C 3 rfl dX6_has_2 ?_
  refine s_iconst C 4 rfl dX6_has_3 ic_1 ?_
  refine s_iand C 5 rfl dX6_has_4 ?_
  refine s_iconst C 6 rfl dX6_has_5 ic_1 ?_
  refine s_icmp_ne C 13 9 rfl dX6_has_6 rfl (fun hc1 => ?_) (fun hc1 => ?_)
  · replace hf := ite_f hc1 hf
    refine s_iconst C 14 rfl dX6_has_13 ic_0 ?_
    obtain rfl := Option.some.inj hf
    exact s_zret C (fun i => i) hr hlk (Or.inl rfl) rfl rfl dX6_has_14
  · replace hf := ite_t hc1 hf
    refine s_iconst C 10 rfl dX6_has_9 ic_1 ?_
    refine s_goto C 14 dX6_has_10 rfl ?_
    obtain rfl := Option.some.inj hf
    exact s_zret C (fun i => i) hr hlk (Or.inr rfl) rfl rfl dX6_has_14


theorem hd_X6_bits : yX6_bits.cls ≠ "java/lang/invoke/MethodHandle" ∧ yX6_bits.cls ≠ "java/lang/invoke/VarHandle" ∧ (parseMethodDescriptor yX6_bits.desc).map (fun d => d.parameters.length) = some 1 := by decide +kernel
set_option maxHeartbeats 4000000 in
set_option maxRecDepth 100000 in
theorem c_X6_bits (l : Launch) (D : va_G) (cI : ClassId) (adK adV : Nat → Nat)   (a0 : Int32) (o : Int32) (hf : f_X6_bits a0 = some o) : Ct l D cI adK adV yX6_bits (wy yX6_bits cX6_bits 3 (some .int)) { frames := 0, cells := 0, slots := 0, locals := 0 } 0 0 [.int a0] [] (fun _ => []) (some (.int o)) := by
  refine Ct.of (cc := cX6_bits) (nL := 3) (ret := (some .int)) (own := RX6) (by decide) (Nat.le_of_ble_eq_true rfl) rfl ?_
  intro p e s m args below meth c A C hr hlk hnm
  refine s_lv (lv1 := [(0, .int a0)]) [0] rfl ?_
  unfold f_X6_bits at hf
  refine s_iconst C 1 rfl dX6_bits_0 ic_0 ?_
  refine s_istore_n (lv1 := [(1, .int (0 : Int32)), (0, .int a0)]) C 2 1 rfl dX6_bits_1 rfl (Nat.le_of_ble_eq_true rfl) rfl ?_
  refine s_iconst C 3 rfl dX6_bits_2 ic_0 ?_
  refine s_istore_n (lv1 := [(2, .int (0 : Int32)), (1, .int (0 : Int32)), (0, .int a0)]) C 4 2 rfl dX6_bits_3 rfl (Nat.le_of_ble_eq_true rfl) rfl ?_
  refine s_lv (lv1 := [(0, .int a0), (1, .int (0 : Int32)), (2, .int (0 : Int32))]) [2, 1, 0] rfl ?_
  refine s_loop (α := Int32 × Int32) (fun n v2 => f_X6_bits_4 a0 n v2.1 v2.2) 4 (fun v2 => [(0, .int a0), (1, .int v2.1), (2, .int v2.2)]) (fun v2 => []) 1000 ((0 : Int32), (0 : Int32)) hf (fun v2 hf => by simp only [f_X6_bits_4] at hf; exact absurd hf (by simp)) (fun n ih3 v2 hf => ?_)
  replace hf := (f_X6_bits_4_s _ _ _ _).symm.trans hf
  refine s_iload_n C 5 2 rfl dX6_bits_4 rfl ?_
  refine s_bipush C 7 rfl dX6_bits_5 bp_25 ?_
  refine s_icmp_ge C 24 10 rfl dX6_bits_7 rfl (fun hc4 => ?_) (fun hc4 => ?_)
  · replace hf := ite_t hc4 hf
    refine s_iload_n C 25 1 rfl dX6_bits_24 rfl ?_
    obtain rfl := Option.some.inj hf
    exact s_iret C (fun i => i) hr hlk rfl rfl dX6_bits_25
  · replace hf := ite_f hc4 hf
    refine s_iload_n C 11 1 rfl dX6_bits_10 rfl ?_
    refine s_iload_n C 12 0 rfl dX6_bits_11 rfl ?_
    refine s_iload_n C 13 2 rfl dX6_bits_12 rfl ?_
    refine s_ishr C 14 rfl dX6_bits_13 ?_
    refine s_iconst C 15 rfl dX6_bits_14 ic_1 ?_
    refine s_iand C 16 rfl dX6_bits_15 ?_
    refine s_iadd C 17 rfl dX6_bits_16 ?_
    refine s_istore_n (lv1 := [(1, .int (v2.1 + ((jshr a0 v2.2) &&& (1 : Int32)))), (0, .int a0), (2, .int v2.2)]) C 18 1 rfl dX6_bits_17 rfl (Nat.le_of_ble_eq_true rfl) rfl ?_
    refine s_iinc (lv1 := [(2, .int (v2.2 + (1 : Int32))), (1, .int (v2.1 + ((jshr a0 v2.2) &&& (1 : Int32)))), (0, .int a0)]) C 21 2 2 rfl dX6_bits_18 rfl ic_1 (Nat.le_of_ble_eq_true rfl) rfl ?_
    refine s_goto C 4 dX6_bits_21 rfl ?_
    exact s_lv [2, 1, 0] rfl (ih3 ((v2.1 + ((jshr a0 v2.2) &&& (1 : Int32)), v2.2 + (1 : Int32)) : Int32 × Int32) hf)


theorem hd_X6_bite : yX6_bite.cls ≠ "java/lang/invoke/MethodHandle" ∧ yX6_bite.cls ≠ "java/lang/invoke/VarHandle" ∧ (parseMethodDescriptor yX6_bite.desc).map (fun d => d.parameters.length) = some 2 := by decide +kernel
set_option maxHeartbeats 4000000 in
set_option maxRecDepth 100000 in
theorem c_X6_bite (l : Launch) (D : va_G) (cI : ClassId) (adK adV : Nat → Nat)   (a0 : Int32) (a1 : Int32) (o : Int32) (hf : f_X6_bite a0 a1 = some o) : Ct l D cI adK adV yX6_bite (wy yX6_bite cX6_bite 5 (some .int)) { frames := 0, cells := 0, slots := 0, locals := 0 } 0 0 [.int a0, .int a1] [] (fun _ => []) (some (.int o)) := by
  refine Ct.of (cc := cX6_bite) (nL := 5) (ret := (some .int)) (own := RX6) (by decide) (Nat.le_of_ble_eq_true rfl) rfl ?_
  intro p e s m args below meth c A C hr hlk hnm
  refine s_lv (lv1 := [(0, .int a0), (1, .int a1)]) [0, 1] rfl ?_
  unfold f_X6_bite at hf
  refine s_iload_n C 1 0 rfl dX6_bite_0 rfl ?_
  refine s_iconst C 2 rfl dX6_bite_1 ic_2 ?_
  refine s_irem C 3 rfl dX6_bite_2 (by decide) ?_
  refine s_iconst C 4 rfl dX6_bite_3 ic_1 ?_
  refine s_jn (α := Int32) 12 (fun j1 => [(0, .int a0), (1, .int a1)]) (fun j1 => [.int j1]) (fun j1 => []) hf (fun j1 hf => ?_) (fun hj hf => ?_)
  · refine s_istore_n (lv1 := [(2, .int j1), (0, .int a0), (1, .int a1)]) C 13 2 rfl dX6_bite_12 rfl (Nat.le_of_ble_eq_true rfl) rfl ?_
    refine s_iload_n C 14 1 rfl dX6_bite_13 rfl ?_
    refine s_iconst C 15 rfl dX6_bite_14 ic_2 ?_
    refine s_jn (α := Int32) 23 (fun j3 => [(1, .int a1), (2, .int j1)]) (fun j3 => [.int j3]) (fun j3 => []) hf (fun j3 hf => ?_) (fun hj hf => ?_)
    · refine s_istore_n (lv1 := [(3, .int j3), (1, .int a1), (2, .int j1)]) C 24 3 rfl dX6_bite_23 rfl (Nat.le_of_ble_eq_true rfl) rfl ?_
      refine s_iload_n C 25 1 rfl dX6_bite_24 rfl ?_
      refine s_iconst C 26 rfl dX6_bite_25 ic_5 ?_
      refine s_irem C 27 rfl dX6_bite_26 (by decide) ?_
      refine s_iload_n C 28 2 rfl dX6_bite_27 rfl ?_
      refine s_iadd C 29 rfl dX6_bite_28 ?_
      refine s_iconst C 30 rfl dX6_bite_29 ic_5 ?_
      refine s_icmp_gt C 42 33 rfl dX6_bite_30 rfl (fun hc9 => ?_) (fun hc9 => ?_)
      · replace hf := ite_t hc9 hf
        refine s_iconst C 43 rfl dX6_bite_42 ic_0 ?_
        obtain rfl := Option.some.inj hf
        exact s_iret C (fun i => i) hr hlk rfl rfl dX6_bite_43
      · replace hf := ite_f hc9 hf
        refine s_iload_n C 34 1 rfl dX6_bite_33 rfl ?_
        refine s_iconst C 35 rfl dX6_bite_34 ic_5 ?_
        refine s_idiv C 36 rfl dX6_bite_35 (by decide) ?_
        refine s_iload_n C 37 0 rfl dX6_bite_36 rfl ?_
        refine s_iadd C 38 rfl dX6_bite_37 ?_
        refine s_iconst C 39 rfl dX6_bite_38 ic_5 ?_
        refine s_icmp_le C 44 42 rfl dX6_bite_39 rfl (fun hc8 => ?_) (fun hc8 => ?_)
        · replace hf := ite_t hc8 hf
          refine s_iconst C 45 rfl dX6_bite_44 ic_1 ?_
          refine s_iload_n C 46 1 rfl dX6_bite_45 rfl ?_
          refine s_ishl C 47 rfl dX6_bite_46 ?_
          refine s_istore (lv1 := [(4, .int (jshl (1 : Int32) a1)), (3, .int j3), (1, .int a1), (2, .int j1)]) C 49 4 rfl dX6_bite_47 (Nat.le_of_ble_eq_true rfl) rfl ?_
          refine s_iload_n C 50 3 rfl dX6_bite_49 rfl ?_
          refine s_iconst C 51 rfl dX6_bite_50 ic_2 ?_
          refine s_jn (α := Int32) 64 (fun j5 => [(3, .int j3), (4, .int j5)]) (fun j5 => []) (fun j5 => []) hf (fun j5 hf => ?_) (fun hj hf => ?_)
          · refine s_iload_n C 65 0 rfl dX6_bite_64 rfl ?_
            refine s_iconst C 66 rfl dX6_bite_65 ic_2 ?_
            refine s_icmp_ne C 79 69 rfl dX6_bite_66 rfl (fun hc7 => ?_) (fun hc7 => ?_)
            · replace hf := ite_f hc7 hf
              refine s_iload C 81 1 rfl dX6_bite_79 rfl ?_
              obtain rfl := Option.some.inj hf
              exact s_iret C (fun i => i) hr hlk rfl rfl dX6_bite_81
            · replace hf := ite_t hc7 hf
              refine s_iload C 71 1 rfl dX6_bite_69 rfl ?_
              refine s_iload C 73 1 rfl dX6_bite_71 rfl ?_
              refine s_iconst C 74 rfl dX6_bite_73 ic_5 ?_
              refine s_ishl C 75 rfl dX6_bite_74 ?_
              refine s_ior C 76 rfl dX6_bite_75 ?_
              refine s_goto C 81 dX6_bite_76 rfl ?_
              obtain rfl := Option.some.inj hf
              exact s_iret C (fun i => i) hr hlk rfl rfl dX6_bite_81
          · refine s_icmp_ne C 64 54 rfl dX6_bite_51 rfl (fun hc6 => ?_) (fun hc6 => ?_)
            · replace hf := jn_f hc6 hf
              replace hf := jn_i hf
              exact s_lv [1, 0] rfl (hj (jshl (1 : Int32) a1 : Int32) hf)
            · replace hf := jn_t hc6 hf
              refine s_iload C 56 0 rfl dX6_bite_54 rfl ?_
              refine s_iconst C 57 rfl dX6_bite_56 ic_1 ?_
              refine s_iload_n C 58 2 rfl dX6_bite_57 rfl ?_
              refine s_iconst C 59 rfl dX6_bite_58 ic_1 ?_
              refine s_iadd C 60 rfl dX6_bite_59 ?_
              refine s_ishl C 61 rfl dX6_bite_60 ?_
              refine s_ior C 62 rfl dX6_bite_61 ?_
              refine s_istore (lv1 := [(4, .int ((jshl (1 : Int32) a1) ||| (jshl (1 : Int32) (a1 + (1 : Int32))))), (3, .int j3), (1, .int a1), (2, .int j1)]) C 64 4 rfl dX6_bite_62 (Nat.le_of_ble_eq_true rfl) rfl ?_
              replace hf := jn_i hf
              exact s_lv [1, 0] rfl (hj ((jshl (1 : Int32) a1) ||| (jshl (1 : Int32) (a1 + (1 : Int32))) : Int32) hf)
        · replace hf := ite_f hc8 hf
          refine s_iconst C 43 rfl dX6_bite_42 ic_0 ?_
          obtain rfl := Option.some.inj hf
          exact s_iret C (fun i => i) hr hlk rfl rfl dX6_bite_43
    · refine s_icmp_lt C 22 18 rfl dX6_bite_15 rfl (fun hc4 => ?_) (fun hc4 => ?_)
      · replace hf := jn_t hc4 hf
        refine s_iconst C 23 rfl dX6_bite_22 ic_1 ?_
        replace hf := jn_i hf
        exact s_lv [2, 0] rfl (hj ((1 : Int32) : Int32) hf)
      · replace hf := jn_f hc4 hf
        refine s_iconst C 19 rfl dX6_bite_18 ic_2 ?_
        refine s_goto C 23 dX6_bite_19 rfl ?_
        replace hf := jn_i hf
        exact s_lv [2, 0] rfl (hj ((2 : Int32) : Int32) hf)
  · refine s_icmp_ne C 11 7 rfl dX6_bite_4 rfl (fun hc2 => ?_) (fun hc2 => ?_)
    · replace hf := jn_f hc2 hf
      refine s_iconst C 12 rfl dX6_bite_11 ic_1 ?_
      replace hf := jn_i hf
      exact s_lv [0, 1] rfl (hj ((1 : Int32) : Int32) hf)
    · replace hf := jn_t hc2 hf
      refine s_iconst C 8 rfl dX6_bite_7 ic_2 ?_
      refine s_goto C 12 dX6_bite_8 rfl ?_
      replace hf := jn_i hf
      exact s_lv [0, 1] rfl (hj ((2 : Int32) : Int32) hf)


theorem hd_X6_canBite : yX6_canBite.cls ≠ "java/lang/invoke/MethodHandle" ∧ yX6_canBite.cls ≠ "java/lang/invoke/VarHandle" ∧ (parseMethodDescriptor yX6_canBite.desc).map (fun d => d.parameters.length) = some 3 := by decide +kernel
set_option maxHeartbeats 4000000 in
set_option maxRecDepth 100000 in
theorem c_X6_canBite (l : Launch) (D : va_G) (cI : ClassId) (adK adV : Nat → Nat)   (a0 : Int32) (a1 : Int32) (a2 : Int32) (o : Int32) (hf : f_X6_canBite a0 a1 a2 = some o) : Ct l D cI adK adV yX6_canBite (wy yX6_canBite cX6_canBite 3 (some .boolean)) { frames := 1, cells := 0, slots := 0, locals := 24 } 0 0 [.int a0, .int a1, .int a2] [] (fun _ => []) (some (.int o)) := by
  refine Ct.of (cc := cX6_canBite) (nL := 3) (ret := (some .boolean)) (own := RX6) (by decide) (Nat.le_of_ble_eq_true rfl) rfl ?_
  intro p e s m args below meth c A C hr hlk hnm
  refine s_lv (lv1 := [(0, .int a0), (1, .int a1), (2, .int a2)]) [0, 1, 2] rfl ?_
  unfold f_X6_canBite at hf
  refine s_iload_n C 1 1 rfl dX6_canBite_0 rfl ?_
  refine s_iload_n C 2 2 rfl dX6_canBite_1 rfl ?_
  obtain ⟨r1, q2, hf⟩ := bn_s hf
  refine s_callS0 (host := "") (rest := []) C 5 (c_X6_bite l D cI adK adV a1 a2 r1 q2) (gS uu1131 uu1133 uu6 uu1134) hd_X6_bite rfl ⟨rfl, rfl⟩ ⟨Nat.le_of_ble_eq_true rfl, Nat.le_of_ble_eq_true rfl⟩ ⟨Nat.le_of_ble_eq_true rfl, Nat.le_of_ble_eq_true rfl⟩ rfl (Nat.le_of_ble_eq_true rfl) rfl dX6_canBite_2 ?_
  refine s_if_eq C 24 8 rfl dX6_canBite_5 rfl (fun hc6 => ?_) (fun hc6 => ?_)
  · replace hf := ite_t hc6 hf
    refine s_iconst C 25 rfl dX6_canBite_24 ic_0 ?_
    obtain rfl := Option.some.inj hf
    exact s_zret C (fun i => i) hr hlk (Or.inl rfl) rfl rfl dX6_canBite_25
  · replace hf := ite_f hc6 hf
    refine s_iload_n C 9 1 rfl dX6_canBite_8 rfl ?_
    refine s_iload_n C 10 2 rfl dX6_canBite_9 rfl ?_
    obtain ⟨r3, q4, hf⟩ := bn_s hf
    refine s_callS0 (host := "") (rest := []) C 13 (c_X6_bite l D cI adK adV a1 a2 r3 q4) (gS uu1131 uu1133 uu6 uu1134) hd_X6_bite rfl ⟨rfl, rfl⟩ ⟨Nat.le_of_ble_eq_true rfl, Nat.le_of_ble_eq_true rfl⟩ ⟨Nat.le_of_ble_eq_true rfl, Nat.le_of_ble_eq_true rfl⟩ rfl (Nat.le_of_ble_eq_true rfl) rfl dX6_canBite_10 ?_
    refine s_iload_n C 14 0 rfl dX6_canBite_13 rfl ?_
    refine s_iconst C 15 rfl dX6_canBite_14 ic_m1 ?_
    refine s_ixor C 16 rfl dX6_canBite_15 ?_
    refine s_iand C 17 rfl dX6_canBite_16 ?_
    refine s_if_ne C 24 20 rfl dX6_canBite_17 rfl (fun hc5 => ?_) (fun hc5 => ?_)
    · replace hf := ite_f hc5 hf
      refine s_iconst C 25 rfl dX6_canBite_24 ic_0 ?_
      obtain rfl := Option.some.inj hf
      exact s_zret C (fun i => i) hr hlk (Or.inl rfl) rfl rfl dX6_canBite_25
    · replace hf := ite_t hc5 hf
      refine s_iconst C 21 rfl dX6_canBite_20 ic_1 ?_
      refine s_goto C 25 dX6_canBite_21 rfl ?_
      obtain rfl := Option.some.inj hf
      exact s_zret C (fun i => i) hr hlk (Or.inr rfl) rfl rfl dX6_canBite_25


theorem hd_X6_besideOf : yX6_besideOf.cls ≠ "java/lang/invoke/MethodHandle" ∧ yX6_besideOf.cls ≠ "java/lang/invoke/VarHandle" ∧ (parseMethodDescriptor yX6_besideOf.desc).map (fun d => d.parameters.length) = some 1 := by decide +kernel
set_option maxHeartbeats 4000000 in
set_option maxRecDepth 100000 in
theorem c_X6_besideOf (l : Launch) (D : va_G) (cI : ClassId) (adK adV : Nat → Nat)   (a0 : Int32) (o : Int32) (hf : f_X6_besideOf a0 = some o) : Ct l D cI adK adV yX6_besideOf (wy yX6_besideOf cX6_besideOf 3 (some .int)) { frames := 0, cells := 0, slots := 0, locals := 0 } 0 0 [.int a0] [] (fun _ => []) (some (.int o)) := by
  refine Ct.of (cc := cX6_besideOf) (nL := 3) (ret := (some .int)) (own := RX6) (by decide) (Nat.le_of_ble_eq_true rfl) rfl ?_
  intro p e s m args below meth c A C hr hlk hnm
  refine s_lv (lv1 := [(0, .int a0)]) [0] rfl ?_
  unfold f_X6_besideOf at hf
  refine s_iconst C 1 rfl dX6_besideOf_0 ic_0 ?_
  refine s_istore_n (lv1 := [(1, .int (0 : Int32)), (0, .int a0)]) C 2 1 rfl dX6_besideOf_1 rfl (Nat.le_of_ble_eq_true rfl) rfl ?_
  refine s_iconst C 3 rfl dX6_besideOf_2 ic_0 ?_
  refine s_istore_n (lv1 := [(2, .int (0 : Int32)), (1, .int (0 : Int32)), (0, .int a0)]) C 4 2 rfl dX6_besideOf_3 rfl (Nat.le_of_ble_eq_true rfl) rfl ?_
  refine s_lv (lv1 := [(0, .int a0), (1, .int (0 : Int32)), (2, .int (0 : Int32))]) [2, 1, 0] rfl ?_
  refine s_kont (γ := Int32) (o := o) (fun KQ => f_X6_besideOf_4 KQ 1000 (0 : Int32) (0 : Int32) = some o) 23 (fun e3 => [(0, .int a0), (1, .int e3)]) (fun e3 => []) (fun e3 => []) hf (fun e3 hf => ?_) (fun k2 hk2 hf => ?_)
  · refine s_iload_n C 24 1 rfl dX6_besideOf_23 rfl ?_
    refine s_iconst C 25 rfl dX6_besideOf_24 ic_4 ?_
    refine s_ishl C 26 rfl dX6_besideOf_25 ?_
    refine s_istore_n (lv1 := [(2, .int (jshl e3 (4 : Int32))), (0, .int a0), (1, .int e3)]) C 27 2 rfl dX6_besideOf_26 rfl (Nat.le_of_ble_eq_true rfl) rfl ?_
    refine s_iload_n C 28 1 rfl dX6_besideOf_27 rfl ?_
    refine s_iconst C 29 rfl dX6_besideOf_28 ic_5 ?_
    refine s_ishl C 30 rfl dX6_besideOf_29 ?_
    refine s_iload_n C 31 1 rfl dX6_besideOf_30 rfl ?_
    refine s_iconst C 32 rfl dX6_besideOf_31 ic_5 ?_
    refine s_ishr C 33 rfl dX6_besideOf_32 ?_
    refine s_ior C 34 rfl dX6_besideOf_33 ?_
    refine s_iload_n C 35 1 rfl dX6_besideOf_34 rfl ?_
    refine s_iload_n C 36 0 rfl dX6_besideOf_35 rfl ?_
    refine s_iconst C 37 rfl dX6_besideOf_36 ic_m1 ?_
    refine s_ixor C 38 rfl dX6_besideOf_37 ?_
    refine s_iand C 39 rfl dX6_besideOf_38 ?_
    refine s_iconst C 40 rfl dX6_besideOf_39 ic_1 ?_
    refine s_ishl C 41 rfl dX6_besideOf_40 ?_
    refine s_ior C 42 rfl dX6_besideOf_41 ?_
    refine s_iload_n C 43 1 rfl dX6_besideOf_42 rfl ?_
    refine s_iload_n C 44 2 rfl dX6_besideOf_43 rfl ?_
    refine s_iconst C 45 rfl dX6_besideOf_44 ic_m1 ?_
    refine s_ixor C 46 rfl dX6_besideOf_45 ?_
    refine s_iand C 47 rfl dX6_besideOf_46 ?_
    refine s_iconst C 48 rfl dX6_besideOf_47 ic_1 ?_
    refine s_ishr C 49 rfl dX6_besideOf_48 ?_
    refine s_ior C 50 rfl dX6_besideOf_49 ?_
    refine s_ldc C 52 rfl dX6_besideOf_50 uu984 ?_
    refine s_iand C 53 rfl dX6_besideOf_52 ?_
    obtain rfl := Option.some.inj hf
    exact s_iret C (fun i => i) hr hlk rfl rfl dX6_besideOf_53
  · skip
    refine s_loop (α := Int32 × Int32) (fun n v4 => f_X6_besideOf_4 k2 n v4.1 v4.2) 4 (fun v4 => [(0, .int a0), (1, .int v4.1), (2, .int v4.2)]) (fun v4 => []) 1000 ((0 : Int32), (0 : Int32)) hf (fun v4 hf => by simp only [f_X6_besideOf_4] at hf; exact absurd hf (by simp)) (fun n ih5 v4 hf => ?_)
    replace hf := (f_X6_besideOf_4_s _ _ _ _).symm.trans hf
    refine s_iload_n C 5 2 rfl dX6_besideOf_4 rfl ?_
    refine s_iconst C 6 rfl dX6_besideOf_5 ic_5 ?_
    refine s_icmp_ge C 23 9 rfl dX6_besideOf_6 rfl (fun hc6 => ?_) (fun hc6 => ?_)
    · replace hf := ite_t hc6 hf
      exact s_lv [0, 1] rfl (hk2 (v4.1 : Int32) hf)
    · replace hf := ite_f hc6 hf
      refine s_iload_n C 10 1 rfl dX6_besideOf_9 rfl ?_
      refine s_iconst C 11 rfl dX6_besideOf_10 ic_1 ?_
      refine s_iconst C 12 rfl dX6_besideOf_11 ic_5 ?_
      refine s_iload_n C 13 2 rfl dX6_besideOf_12 rfl ?_
      refine s_imul C 14 rfl dX6_besideOf_13 ?_
      refine s_ishl C 15 rfl dX6_besideOf_14 ?_
      refine s_ior C 16 rfl dX6_besideOf_15 ?_
      refine s_istore_n (lv1 := [(1, .int (v4.1 ||| (jshl (1 : Int32) ((5 : Int32) * v4.2)))), (0, .int a0), (2, .int v4.2)]) C 17 1 rfl dX6_besideOf_16 rfl (Nat.le_of_ble_eq_true rfl) rfl ?_
      refine s_iinc (lv1 := [(2, .int (v4.2 + (1 : Int32))), (1, .int (v4.1 ||| (jshl (1 : Int32) ((5 : Int32) * v4.2)))), (0, .int a0)]) C 20 2 2 rfl dX6_besideOf_17 rfl ic_1 (Nat.le_of_ble_eq_true rfl) rfl ?_
      refine s_goto C 4 dX6_besideOf_20 rfl ?_
      exact s_lv [2, 1, 0] rfl (ih5 ((v4.1 ||| (jshl (1 : Int32) ((5 : Int32) * v4.2)), v4.2 + (1 : Int32)) : Int32 × Int32) hf)


theorem hd_X6_heapOf : yX6_heapOf.cls ≠ "java/lang/invoke/MethodHandle" ∧ yX6_heapOf.cls ≠ "java/lang/invoke/VarHandle" ∧ (parseMethodDescriptor yX6_heapOf.desc).map (fun d => d.parameters.length) = some 2 := by decide +kernel
set_option maxHeartbeats 4000000 in
set_option maxRecDepth 100000 in
theorem c_X6_heapOf (l : Launch) (D : va_G) (cI : ClassId) (adK adV : Nat → Nat)   (a0 : Int32) (a1 : Int32) (o : Int32) (hf : f_X6_heapOf a0 a1 = some o) : Ct l D cI adK adV yX6_heapOf (wy yX6_heapOf cX6_heapOf 4 (some .int)) { frames := 1, cells := 0, slots := 0, locals := 22 } 0 0 [.int a0, .int a1] [] (fun _ => []) (some (.int o)) := by
  refine Ct.of (cc := cX6_heapOf) (nL := 4) (ret := (some .int)) (own := RX6) (by decide) (Nat.le_of_ble_eq_true rfl) rfl ?_
  intro p e s m args below meth c A C hr hlk hnm
  refine s_lv (lv1 := [(0, .int a0), (1, .int a1)]) [0, 1] rfl ?_
  unfold f_X6_heapOf at hf
  refine s_iconst C 1 rfl dX6_heapOf_0 ic_1 ?_
  refine s_iload_n C 2 1 rfl dX6_heapOf_1 rfl ?_
  refine s_ishl C 3 rfl dX6_heapOf_2 ?_
  refine s_iload_n C 4 0 rfl dX6_heapOf_3 rfl ?_
  refine s_iand C 5 rfl dX6_heapOf_4 ?_
  refine s_istore_n (lv1 := [(2, .int ((jshl (1 : Int32) a1) &&& a0)), (0, .int a0), (1, .int a1)]) C 6 2 rfl dX6_heapOf_5 rfl (Nat.le_of_ble_eq_true rfl) rfl ?_
  refine s_iload_n C 7 0 rfl dX6_heapOf_6 rfl ?_
  refine s_istore_n (lv1 := [(3, .int ((jshl (1 : Int32) a1) &&& a0)), (2, .int ((jshl (1 : Int32) a1) &&& a0)), (0, .int a0), (1, .int a1)]) C 8 3 rfl dX6_heapOf_7 rfl (Nat.le_of_ble_eq_true rfl) rfl ?_
  refine s_lv (lv1 := [(0, .int a0), (2, .int ((jshl (1 : Int32) a1) &&& a0)), (3, .int ((jshl (1 : Int32) a1) &&& a0))]) [2, 1, 0] rfl ?_
  refine s_loop (α := Int32 × Int32) (fun n v4 => f_X6_heapOf_8 a0 n v4.1 v4.2) 8 (fun v4 => [(0, .int a0), (2, .int v4.1), (3, .int v4.2)]) (fun v4 => []) 1000 ((jshl (1 : Int32) a1) &&& a0, (jshl (1 : Int32) a1) &&& a0) hf (fun v4 hf => by simp only [f_X6_heapOf_8] at hf; exact absurd hf (by simp)) (fun n ih5 v4 hf => ?_)
  replace hf := (f_X6_heapOf_8_s _ _ _ _).symm.trans hf
  refine s_iload_n C 9 2 rfl dX6_heapOf_8 rfl ?_
  refine s_if_eq C 30 12 rfl dX6_heapOf_9 rfl (fun hc8 => ?_) (fun hc8 => ?_)
  · replace hf := ite_t hc8 hf
    refine s_iload_n C 31 1 rfl dX6_heapOf_30 rfl ?_
    obtain rfl := Option.some.inj hf
    exact s_iret C (fun i => i) hr hlk rfl rfl dX6_heapOf_31
  · replace hf := ite_f hc8 hf
    refine s_iload_n C 13 1 rfl dX6_heapOf_12 rfl ?_
    obtain ⟨r6, q7, hf⟩ := bn_s hf
    refine s_callS0 (host := "") (rest := []) C 16 (c_X6_besideOf l D cI adK adV v4.1 r6 q7) (gS uu1172 uu1174 uu6 uu1175) hd_X6_besideOf rfl ⟨rfl, rfl⟩ ⟨Nat.le_of_ble_eq_true rfl, Nat.le_of_ble_eq_true rfl⟩ ⟨Nat.le_of_ble_eq_true rfl, Nat.le_of_ble_eq_true rfl⟩ rfl (Nat.le_of_ble_eq_true rfl) rfl dX6_heapOf_13 ?_
    refine s_iload_n C 17 0 rfl dX6_heapOf_16 rfl ?_
    refine s_iand C 18 rfl dX6_heapOf_17 ?_
    refine s_iload_n C 19 1 rfl dX6_heapOf_18 rfl ?_
    refine s_iconst C 20 rfl dX6_heapOf_19 ic_m1 ?_
    refine s_ixor C 21 rfl dX6_heapOf_20 ?_
    refine s_iand C 22 rfl dX6_heapOf_21 ?_
    refine s_istore_n (lv1 := [(3, .int ((r6 &&& a0) &&& (v4.1 ^^^ (-1 : Int32)))), (0, .int a0), (2, .int v4.1)]) C 23 3 rfl dX6_heapOf_22 rfl (Nat.le_of_ble_eq_true rfl) rfl ?_
    refine s_iload_n C 24 2 rfl dX6_heapOf_23 rfl ?_
    refine s_iload_n C 25 0 rfl dX6_heapOf_24 rfl ?_
    refine s_ior C 26 rfl dX6_heapOf_25 ?_
    refine s_istore_n (lv1 := [(2, .int (v4.1 ||| ((r6 &&& a0) &&& (v4.1 ^^^ (-1 : Int32))))), (3, .int ((r6 &&& a0) &&& (v4.1 ^^^ (-1 : Int32)))), (0, .int a0)]) C 27 2 rfl dX6_heapOf_26 rfl (Nat.le_of_ble_eq_true rfl) rfl ?_
    refine s_goto C 8 dX6_heapOf_27 rfl ?_
    exact s_lv [2, 0, 1] rfl (ih5 ((v4.1 ||| ((r6 &&& a0) &&& (v4.1 ^^^ (-1 : Int32))), (r6 &&& a0) &&& (v4.1 ^^^ (-1 : Int32))) : Int32 × Int32) hf)


theorem hd_X6_leastOf : yX6_leastOf.cls ≠ "java/lang/invoke/MethodHandle" ∧ yX6_leastOf.cls ≠ "java/lang/invoke/VarHandle" ∧ (parseMethodDescriptor yX6_leastOf.desc).map (fun d => d.parameters.length) = some 1 := by decide +kernel
set_option maxHeartbeats 4000000 in
set_option maxRecDepth 100000 in
theorem c_X6_leastOf (l : Launch) (D : va_G) (cI : ClassId) (adK adV : Nat → Nat)   (a0 : Int32) (o : Int32) (hf : f_X6_leastOf a0 = some o) : Ct l D cI adK adV yX6_leastOf (wy yX6_leastOf cX6_leastOf 2 (some .int)) { frames := 1, cells := 0, slots := 0, locals := 21 } 0 0 [.int a0] [] (fun _ => []) (some (.int o)) := by
  refine Ct.of (cc := cX6_leastOf) (nL := 2) (ret := (some .int)) (own := RX6) (by decide) (Nat.le_of_ble_eq_true rfl) rfl ?_
  intro p e s m args below meth c A C hr hlk hnm
  refine s_lv (lv1 := [(0, .int a0)]) [0] rfl ?_
  unfold f_X6_leastOf at hf
  refine s_iconst C 1 rfl dX6_leastOf_0 ic_0 ?_
  refine s_istore_n (lv1 := [(1, .int (0 : Int32)), (0, .int a0)]) C 2 1 rfl dX6_leastOf_1 rfl (Nat.le_of_ble_eq_true rfl) rfl ?_
  refine s_lv (lv1 := [(0, .int a0), (1, .int (0 : Int32))]) [1, 0] rfl ?_
  refine s_loop (α := Int32) (fun n v4 => f_X6_leastOf_2 a0 n v4) 2 (fun v4 => [(0, .int a0), (1, .int v4)]) (fun v4 => []) 1000 (0 : Int32) hf (fun v4 hf => by simp only [f_X6_leastOf_2] at hf; exact absurd hf (by simp)) (fun n ih5 v4 hf => ?_)
  replace hf := (f_X6_leastOf_2_s _ _ _).symm.trans hf
  refine s_iload_n C 3 0 rfl dX6_leastOf_2 rfl ?_
  refine s_iload_n C 4 1 rfl dX6_leastOf_3 rfl ?_
  obtain ⟨r6, q7, hf⟩ := bn_s hf
  refine s_callS0 (host := "") (rest := []) C 7 (c_X6_has l D cI adK adV a0 v4 r6 q7) (gS uu1218 uu1220 uu6 uu1221) hd_X6_has rfl ⟨rfl, rfl⟩ ⟨Nat.le_of_ble_eq_true rfl, Nat.le_of_ble_eq_true rfl⟩ ⟨Nat.le_of_ble_eq_true rfl, Nat.le_of_ble_eq_true rfl⟩ rfl (Nat.le_of_ble_eq_true rfl) rfl dX6_leastOf_4 ?_
  refine s_if_ne C 16 10 rfl dX6_leastOf_7 rfl (fun hc8 => ?_) (fun hc8 => ?_)
  · replace hf := ite_f hc8 hf
    refine s_iload_n C 17 1 rfl dX6_leastOf_16 rfl ?_
    obtain rfl := Option.some.inj hf
    exact s_iret C (fun i => i) hr hlk rfl rfl dX6_leastOf_17
  · replace hf := ite_t hc8 hf
    refine s_iinc (lv1 := [(1, .int (v4 + (1 : Int32))), (0, .int a0)]) C 13 1 1 rfl dX6_leastOf_10 rfl ic_1 (Nat.le_of_ble_eq_true rfl) rfl ?_
    refine s_goto C 2 dX6_leastOf_13 rfl ?_
    exact s_lv [1, 0] rfl (ih5 (v4 + (1 : Int32) : Int32) hf)


theorem hd_X6_heaps : yX6_heaps.cls ≠ "java/lang/invoke/MethodHandle" ∧ yX6_heaps.cls ≠ "java/lang/invoke/VarHandle" ∧ (parseMethodDescriptor yX6_heaps.desc).map (fun d => d.parameters.length) = some 1 := by decide +kernel
set_option maxHeartbeats 4000000 in
set_option maxRecDepth 100000 in
theorem c_X6_heaps (l : Launch) (D : va_G) (cI : ClassId) (adK adV : Nat → Nat)   (a0 : Int32) (o : Int32) (hf : f_X6_heaps a0 = some o) : Ct l D cI adK adV yX6_heaps (wy yX6_heaps cX6_heaps 3 (some .int)) { frames := 2, cells := 0, slots := 0, locals := 45 } 0 0 [.int a0] [] (fun _ => []) (some (.int o)) := by
  refine Ct.of (cc := cX6_heaps) (nL := 3) (ret := (some .int)) (own := RX6) (by decide) (Nat.le_of_ble_eq_true rfl) rfl ?_
  intro p e s m args below meth c A C hr hlk hnm
  refine s_lv (lv1 := [(0, .int a0)]) [0] rfl ?_
  unfold f_X6_heaps at hf
  refine s_iconst C 1 rfl dX6_heaps_0 ic_0 ?_
  refine s_istore_n (lv1 := [(1, .int (0 : Int32)), (0, .int a0)]) C 2 1 rfl dX6_heaps_1 rfl (Nat.le_of_ble_eq_true rfl) rfl ?_
  refine s_iload_n C 3 1 rfl dX6_heaps_2 rfl ?_
  refine s_istore_n (lv1 := [(2, .int a0), (1, .int (0 : Int32)), (0, .int a0)]) C 4 2 rfl dX6_heaps_3 rfl (Nat.le_of_ble_eq_true rfl) rfl ?_
  refine s_lv (lv1 := [(0, .int a0), (1, .int (0 : Int32)), (2, .int a0)]) [2, 1, 0] rfl ?_
  refine s_loop (α := Int32 × Int32) (fun n v6 => f_X6_heaps_4 a0 n v6.1 v6.2) 4 (fun v6 => [(0, .int a0), (1, .int v6.1), (2, .int v6.2)]) (fun v6 => []) 1000 ((0 : Int32), a0) hf (fun v6 hf => by simp only [f_X6_heaps_4] at hf; exact absurd hf (by simp)) (fun n ih7 v6 hf => ?_)
  replace hf := (f_X6_heaps_4_s _ _ _ _).symm.trans hf
  refine s_iload_n C 5 2 rfl dX6_heaps_4 rfl ?_
  refine s_if_eq C 27 8 rfl dX6_heaps_5 rfl (fun hc12 => ?_) (fun hc12 => ?_)
  · replace hf := ite_t hc12 hf
    refine s_iload_n C 28 1 rfl dX6_heaps_27 rfl ?_
    obtain rfl := Option.some.inj hf
    exact s_iret C (fun i => i) hr hlk rfl rfl dX6_heaps_28
  · replace hf := ite_f hc12 hf
    refine s_iinc (lv1 := [(1, .int (v6.1 + (1 : Int32))), (0, .int a0), (2, .int v6.2)]) C 11 1 1 rfl dX6_heaps_8 rfl ic_1 (Nat.le_of_ble_eq_true rfl) rfl ?_
    refine s_iload_n C 12 2 rfl dX6_heaps_11 rfl ?_
    refine s_iload_n C 13 1 rfl dX6_heaps_12 rfl ?_
    refine s_iload_n C 14 2 rfl dX6_heaps_13 rfl ?_
    obtain ⟨r8, q9, hf⟩ := bn_s hf
    refine s_callS0 (host := "") (rest := [.int a0, .int v6.2]) C 17 (c_X6_leastOf l D cI adK adV v6.2 r8 q9) (gS uu1213 uu1215 uu6 uu1216) hd_X6_leastOf rfl ⟨rfl, rfl⟩ ⟨Nat.le_of_ble_eq_true rfl, Nat.le_of_ble_eq_true rfl⟩ ⟨Nat.le_of_ble_eq_true rfl, Nat.le_of_ble_eq_true rfl⟩ rfl (Nat.le_of_ble_eq_true rfl) rfl dX6_heaps_14 ?_
    obtain ⟨r10, q11, hf⟩ := bn_s hf
    refine s_callS0 (host := "") (rest := [.int v6.2]) C 20 (c_X6_heapOf l D cI adK adV a0 r8 r10 q11) (gS uu1182 uu1184 uu6 uu1185) hd_X6_heapOf rfl ⟨rfl, rfl⟩ ⟨Nat.le_of_ble_eq_true rfl, Nat.le_of_ble_eq_true rfl⟩ ⟨Nat.le_of_ble_eq_true rfl, Nat.le_of_ble_eq_true rfl⟩ rfl (Nat.le_of_ble_eq_true rfl) rfl dX6_heaps_17 ?_
    refine s_iconst C 21 rfl dX6_heaps_20 ic_m1 ?_
    refine s_ixor C 22 rfl dX6_heaps_21 ?_
    refine s_iand C 23 rfl dX6_heaps_22 ?_
    refine s_istore_n (lv1 := [(2, .int (v6.2 &&& (r10 ^^^ (-1 : Int32)))), (1, .int (v6.1 + (1 : Int32))), (0, .int a0)]) C 24 2 rfl dX6_heaps_23 rfl (Nat.le_of_ble_eq_true rfl) rfl ?_
    refine s_goto C 4 dX6_heaps_24 rfl ?_
    exact s_lv [2, 1, 0] rfl (ih7 ((v6.1 + (1 : Int32), v6.2 &&& (r10 ^^^ (-1 : Int32))) : Int32 × Int32) hf)


theorem hd_X6_deed : yX6_deed.cls ≠ "java/lang/invoke/MethodHandle" ∧ yX6_deed.cls ≠ "java/lang/invoke/VarHandle" ∧ (parseMethodDescriptor yX6_deed.desc).map (fun d => d.parameters.length) = some 1 := by decide +kernel
set_option maxHeartbeats 4000000 in
set_option maxRecDepth 100000 in
theorem c_X6_deed (l : Launch) (D : va_G) (cI : ClassId) (adK adV : Nat → Nat)   (a0 : Int32) (o : Int32) (hf : f_X6_deed a0 = some o) : Ct l D cI adK adV yX6_deed (wy yX6_deed cX6_deed 5 (some .int)) { frames := 2, cells := 0, slots := 0, locals := 45 } 0 0 [.int a0] [] (fun _ => []) (some (.int o)) := by
  refine Ct.of (cc := cX6_deed) (nL := 5) (ret := (some .int)) (own := RX6) (by decide) (Nat.le_of_ble_eq_true rfl) rfl ?_
  intro p e s m args below meth c A C hr hlk hnm
  refine s_lv (lv1 := [(0, .int a0)]) [0] rfl ?_
  unfold f_X6_deed at hf
  refine s_iconst C 1 rfl dX6_deed_0 ic_0 ?_
  refine s_istore_n (lv1 := [(1, .int (0 : Int32)), (0, .int a0)]) C 2 1 rfl dX6_deed_1 rfl (Nat.le_of_ble_eq_true rfl) rfl ?_
  refine s_iconst C 3 rfl dX6_deed_2 ic_0 ?_
  refine s_istore_n (lv1 := [(2, .int (0 : Int32)), (1, .int (0 : Int32)), (0, .int a0)]) C 4 2 rfl dX6_deed_3 rfl (Nat.le_of_ble_eq_true rfl) rfl ?_
  refine s_iload_n C 5 2 rfl dX6_deed_4 rfl ?_
  refine s_istore_n (lv1 := [(3, .int a0), (2, .int (0 : Int32)), (1, .int (0 : Int32)), (0, .int a0)]) C 6 3 rfl dX6_deed_5 rfl (Nat.le_of_ble_eq_true rfl) rfl ?_
  refine s_lv (lv1 := [(0, .int a0), (1, .int (0 : Int32)), (2, .int (0 : Int32)), (3, .int a0)]) [3, 2, 1, 0] rfl ?_
  refine s_kont (γ := Int32 × Int32) (o := o) (fun KQ => f_X6_deed_6 a0 KQ 1000 (0 : Int32) (0 : Int32) a0 = some o) 70 (fun e23 => [(1, .int e23.1), (2, .int e23.2)]) (fun e23 => []) (fun e23 => []) hf (fun e23 hf => ?_) (fun k22 hk22 hf => ?_)
  · refine s_iload_n C 71 1 rfl dX6_deed_70 rfl ?_
    refine s_if_eq C 78 74 rfl dX6_deed_71 rfl (fun hc24 => ?_) (fun hc24 => ?_)
    · replace hf := ite_t hc24 hf
      refine s_iconst C 79 rfl dX6_deed_78 ic_0 ?_
      obtain rfl := Option.some.inj hf
      exact s_iret C (fun i => i) hr hlk rfl rfl dX6_deed_79
    · replace hf := ite_f hc24 hf
      refine s_iload_n C 75 0 rfl dX6_deed_74 rfl ?_
      refine s_goto C 79 dX6_deed_75 rfl ?_
      obtain rfl := Option.some.inj hf
      exact s_iret C (fun i => i) hr hlk rfl rfl dX6_deed_79
  · skip
    refine s_loop (α := Int32 × Int32 × Int32) (fun n v25 => f_X6_deed_6 a0 k22 n v25.1 v25.2.1 v25.2.2) 6 (fun v25 => [(0, .int a0), (1, .int v25.1), (2, .int v25.2.1), (3, .int v25.2.2)]) (fun v25 => []) 1000 ((0 : Int32), (0 : Int32), a0) hf (fun v25 hf => by simp only [f_X6_deed_6] at hf; exact absurd hf (by simp)) (fun n ih26 v25 hf => ?_)
    replace hf := (f_X6_deed_6_s _ _ _ _ _ _).symm.trans hf
    refine s_iload_n C 7 3 rfl dX6_deed_6 rfl ?_
    refine s_if_eq C 70 10 rfl dX6_deed_7 rfl (fun hc47 => ?_) (fun hc47 => ?_)
    · replace hf := ite_t hc47 hf
      exact s_lv [1, 2] rfl (hk22 ((v25.1, v25.2.1) : Int32 × Int32) hf)
    · replace hf := ite_f hc47 hf
      refine s_iload_n C 11 0 rfl dX6_deed_10 rfl ?_
      refine s_iload_n C 12 3 rfl dX6_deed_11 rfl ?_
      obtain ⟨r27, q28, hf⟩ := bn_s hf
      refine s_callS0 (host := "") (rest := [.int a0]) C 15 (c_X6_leastOf l D cI adK adV v25.2.2 r27 q28) (gS uu1213 uu1215 uu6 uu1216) hd_X6_leastOf rfl ⟨rfl, rfl⟩ ⟨Nat.le_of_ble_eq_true rfl, Nat.le_of_ble_eq_true rfl⟩ ⟨Nat.le_of_ble_eq_true rfl, Nat.le_of_ble_eq_true rfl⟩ rfl (Nat.le_of_ble_eq_true rfl) rfl dX6_deed_12 ?_
      obtain ⟨r29, q30, hf⟩ := bn_s hf
      refine s_callS0 (host := "") (rest := []) C 18 (c_X6_heapOf l D cI adK adV a0 r27 r29 q30) (gS uu1182 uu1184 uu6 uu1185) hd_X6_heapOf rfl ⟨rfl, rfl⟩ ⟨Nat.le_of_ble_eq_true rfl, Nat.le_of_ble_eq_true rfl⟩ ⟨Nat.le_of_ble_eq_true rfl, Nat.le_of_ble_eq_true rfl⟩ rfl (Nat.le_of_ble_eq_true rfl) rfl dX6_deed_15 ?_
      refine s_istore (lv1 := [(4, .int r29), (0, .int a0), (1, .int v25.1), (2, .int v25.2.1), (3, .int v25.2.2)]) C 20 4 rfl dX6_deed_18 (Nat.le_of_ble_eq_true rfl) rfl ?_
      refine s_iload C 22 0 rfl dX6_deed_20 rfl ?_
      obtain ⟨r31, q32, hf⟩ := bn_s hf
      refine s_callS0 (host := "") (rest := []) C 25 (c_X6_bits l D cI adK adV r29 r31 q32) (gS uu1177 uu1179 uu6 uu1180) hd_X6_bits rfl ⟨rfl, rfl⟩ ⟨Nat.le_of_ble_eq_true rfl, Nat.le_of_ble_eq_true rfl⟩ ⟨Nat.le_of_ble_eq_true rfl, Nat.le_of_ble_eq_true rfl⟩ rfl (Nat.le_of_ble_eq_true rfl) rfl dX6_deed_22 ?_
      refine s_iload_n C 26 2 rfl dX6_deed_25 rfl ?_
      obtain ⟨r33, q34, hf⟩ := bn_s hf
      refine s_callS0 (host := "") (rest := [.int r31]) C 29 (c_X6_bits l D cI adK adV v25.1 r33 q34) (gS uu1177 uu1179 uu6 uu1180) hd_X6_bits rfl ⟨rfl, rfl⟩ ⟨Nat.le_of_ble_eq_true rfl, Nat.le_of_ble_eq_true rfl⟩ ⟨Nat.le_of_ble_eq_true rfl, Nat.le_of_ble_eq_true rfl⟩ rfl (Nat.le_of_ble_eq_true rfl) rfl dX6_deed_26 ?_
      refine s_jn (α := Int32) 34 (fun j35 => [(0, .int a0), (1, .int v25.1), (2, .int j35), (3, .int v25.2.2), (4, .int r29)]) (fun j35 => []) (fun j35 => []) hf (fun j35 hf => ?_) (fun hj hf => ?_)
      · refine s_iload C 36 4 rfl dX6_deed_34 rfl ?_
        obtain ⟨r37, q38, hf⟩ := bn_s hf
        refine s_callS0 (host := "") (rest := []) C 39 (c_X6_bits l D cI adK adV r29 r37 q38) (gS uu1177 uu1179 uu6 uu1180) hd_X6_bits rfl ⟨rfl, rfl⟩ ⟨Nat.le_of_ble_eq_true rfl, Nat.le_of_ble_eq_true rfl⟩ ⟨Nat.le_of_ble_eq_true rfl, Nat.le_of_ble_eq_true rfl⟩ rfl (Nat.le_of_ble_eq_true rfl) rfl dX6_deed_36 ?_
        refine s_iload_n C 40 1 rfl dX6_deed_39 rfl ?_
        obtain ⟨r39, q40, hf⟩ := bn_s hf
        refine s_callS0 (host := "") (rest := [.int r37]) C 43 (c_X6_bits l D cI adK adV v25.1 r39 q40) (gS uu1177 uu1179 uu6 uu1180) hd_X6_bits rfl ⟨rfl, rfl⟩ ⟨Nat.le_of_ble_eq_true rfl, Nat.le_of_ble_eq_true rfl⟩ ⟨Nat.le_of_ble_eq_true rfl, Nat.le_of_ble_eq_true rfl⟩ rfl (Nat.le_of_ble_eq_true rfl) rfl dX6_deed_40 ?_
        refine s_jn (α := Int32 × Int32) 54 (fun j41 => [(0, .int a0), (1, .int j41.1), (2, .int j41.2), (3, .int v25.2.2)]) (fun j41 => []) (fun j41 => []) hf (fun j41 hf => ?_) (fun hj hf => ?_)
        · refine s_iload_n C 55 3 rfl dX6_deed_54 rfl ?_
          refine s_iload_n C 56 0 rfl dX6_deed_55 rfl ?_
          refine s_iload_n C 57 3 rfl dX6_deed_56 rfl ?_
          obtain ⟨r43, q44, hf⟩ := bn_s hf
          refine s_callS0 (host := "") (rest := [.int a0, .int v25.2.2]) C 60 (c_X6_leastOf l D cI adK adV v25.2.2 r43 q44) (gS uu1213 uu1215 uu6 uu1216) hd_X6_leastOf rfl ⟨rfl, rfl⟩ ⟨Nat.le_of_ble_eq_true rfl, Nat.le_of_ble_eq_true rfl⟩ ⟨Nat.le_of_ble_eq_true rfl, Nat.le_of_ble_eq_true rfl⟩ rfl (Nat.le_of_ble_eq_true rfl) rfl dX6_deed_57 ?_
          obtain ⟨r45, q46, hf⟩ := bn_s hf
          refine s_callS0 (host := "") (rest := [.int v25.2.2]) C 63 (c_X6_heapOf l D cI adK adV a0 r43 r45 q46) (gS uu1182 uu1184 uu6 uu1185) hd_X6_heapOf rfl ⟨rfl, rfl⟩ ⟨Nat.le_of_ble_eq_true rfl, Nat.le_of_ble_eq_true rfl⟩ ⟨Nat.le_of_ble_eq_true rfl, Nat.le_of_ble_eq_true rfl⟩ rfl (Nat.le_of_ble_eq_true rfl) rfl dX6_deed_60 ?_
          refine s_iconst C 64 rfl dX6_deed_63 ic_m1 ?_
          refine s_ixor C 65 rfl dX6_deed_64 ?_
          refine s_iand C 66 rfl dX6_deed_65 ?_
          refine s_istore_n (lv1 := [(3, .int (v25.2.2 &&& (r45 ^^^ (-1 : Int32)))), (0, .int a0), (1, .int j41.1), (2, .int j41.2)]) C 67 3 rfl dX6_deed_66 rfl (Nat.le_of_ble_eq_true rfl) rfl ?_
          refine s_goto C 6 dX6_deed_67 rfl ?_
          exact s_lv [1, 2, 3, 0] rfl (ih26 ((j41.1, j41.2, v25.2.2 &&& (r45 ^^^ (-1 : Int32))) : Int32 × Int32 × Int32) hf)
        · refine s_icmp_gt C 49 46 rfl dX6_deed_43 rfl (fun hc42 => ?_) (fun hc42 => ?_)
          · replace hf := jn_t hc42 hf
            refine s_iload C 51 4 rfl dX6_deed_49 rfl ?_
            refine s_istore_n (lv1 := [(1, .int r29), (0, .int a0), (2, .int j35), (3, .int v25.2.2), (4, .int r29)]) C 52 1 rfl dX6_deed_51 rfl (Nat.le_of_ble_eq_true rfl) rfl ?_
            refine s_iconst C 53 rfl dX6_deed_52 ic_1 ?_
            refine s_istore_n (lv1 := [(2, .int (1 : Int32)), (1, .int r29), (0, .int a0), (3, .int v25.2.2), (4, .int r29)]) C 54 2 rfl dX6_deed_53 rfl (Nat.le_of_ble_eq_true rfl) rfl ?_
            replace hf := jn_i hf
            exact s_lv [2, 1, 0, 3] rfl (hj ((r29, (1 : Int32)) : Int32 × Int32) hf)
          · replace hf := jn_f hc42 hf
            refine s_goto C 54 dX6_deed_46 rfl ?_
            replace hf := jn_i hf
            exact s_lv [0, 1, 2, 3] rfl (hj ((v25.1, j35) : Int32 × Int32) hf)
      · refine s_icmp_ne C 34 32 rfl dX6_deed_29 rfl (fun hc36 => ?_) (fun hc36 => ?_)
        · replace hf := jn_f hc36 hf
          replace hf := jn_i hf
          exact s_lv [1, 2, 3, 4, 0] rfl (hj (v25.2.1 : Int32) hf)
        · replace hf := jn_t hc36 hf
          refine s_iconst C 33 rfl dX6_deed_32 ic_0 ?_
          refine s_istore_n (lv1 := [(2, .int (0 : Int32)), (4, .int r29), (0, .int a0), (1, .int v25.1), (3, .int v25.2.2)]) C 34 2 rfl dX6_deed_33 rfl (Nat.le_of_ble_eq_true rfl) rfl ?_
          replace hf := jn_i hf
          exact s_lv [2, 3, 0, 4, 1] rfl (hj ((0 : Int32) : Int32) hf)


theorem hd_X6_most : yX6_most.cls ≠ "java/lang/invoke/MethodHandle" ∧ yX6_most.cls ≠ "java/lang/invoke/VarHandle" ∧ (parseMethodDescriptor yX6_most.desc).map (fun d => d.parameters.length) = some 2 := by decide +kernel
set_option maxHeartbeats 4000000 in
set_option maxRecDepth 100000 in
theorem c_X6_most (l : Launch) (D : va_G) (cI : ClassId) (adK adV : Nat → Nat)   (a0 : Int32) (a1 : Int32) (o : Int32) (hf : f_X6_most a0 a1 = some o) : Ct l D cI adK adV yX6_most (wy yX6_most cX6_most 2 (some .int)) { frames := 0, cells := 0, slots := 0, locals := 0 } 0 0 [.int a0, .int a1] [] (fun _ => []) (some (.int o)) := by
  refine Ct.of (cc := cX6_most) (nL := 2) (ret := (some .int)) (own := RX6) (by decide) (Nat.le_of_ble_eq_true rfl) rfl ?_
  intro p e s m args below meth c A C hr hlk hnm
  refine s_lv (lv1 := [(0, .int a0), (1, .int a1)]) [0, 1] rfl ?_
  unfold f_X6_most at hf
  refine s_iload_n C 1 0 rfl dX6_most_0 rfl ?_
  refine s_iload_n C 2 1 rfl dX6_most_1 rfl ?_
  refine s_icmp_le C 9 5 rfl dX6_most_2 rfl (fun hc1 => ?_) (fun hc1 => ?_)
  · replace hf := ite_t hc1 hf
    refine s_iload_n C 10 1 rfl dX6_most_9 rfl ?_
    obtain rfl := Option.some.inj hf
    exact s_iret C (fun i => i) hr hlk rfl rfl dX6_most_10
  · replace hf := ite_f hc1 hf
    refine s_iload_n C 6 0 rfl dX6_most_5 rfl ?_
    refine s_goto C 10 dX6_most_6 rfl ?_
    obtain rfl := Option.some.inj hf
    exact s_iret C (fun i => i) hr hlk rfl rfl dX6_most_10

theorem sw_out_X6_shareBy_89 {x : Int32} (h0 : ¬ x = (1 : Int32)) (h1 : ¬ x = (2 : Int32)) (h2 : ¬ x = (3 : Int32)) (h3 : ¬ x = (4 : Int32)) (h4 : ¬ x = (5 : Int32)) : x.toInt < 1 ∨ 5 < x.toInt := by
  have e0 := ne_toInt h0
  rw [show ((1 : Int32) : Int32).toInt = 1 from by decide] at e0
  have e1 := ne_toInt h1
  rw [show ((2 : Int32) : Int32).toInt = 2 from by decide] at e1
  have e2 := ne_toInt h2
  rw [show ((3 : Int32) : Int32).toInt = 3 from by decide] at e2
  have e3 := ne_toInt h3
  rw [show ((4 : Int32) : Int32).toInt = 4 from by decide] at e3
  have e4 := ne_toInt h4
  rw [show ((5 : Int32) : Int32).toInt = 5 from by decide] at e4
  omega
theorem hd_X6_shareBy : yX6_shareBy.cls ≠ "java/lang/invoke/MethodHandle" ∧ yX6_shareBy.cls ≠ "java/lang/invoke/VarHandle" ∧ (parseMethodDescriptor yX6_shareBy.desc).map (fun d => d.parameters.length) = some 3 := by decide +kernel
set_option maxHeartbeats 4000000 in
set_option maxRecDepth 100000 in
theorem c_X6_shareBy (l : Launch) (D : va_G) (cI : ClassId) (adK adV : Nat → Nat)   (a0 : Int32) (a1 : Int32) (a2 : Int32) (o : Int32) (hf : f_X6_shareBy a0 a1 a2 = some o) : Ct l D cI adK adV yX6_shareBy (wy yX6_shareBy cX6_shareBy 7 (some .int)) { frames := 3, cells := 0, slots := 0, locals := 69 } 0 0 [.int a0, .int a1, .int a2] [] (fun _ => []) (some (.int o)) := by
  refine Ct.of (cc := cX6_shareBy) (nL := 7) (ret := (some .int)) (own := RX6) (by decide) (Nat.le_of_ble_eq_true rfl) rfl ?_
  intro p e s m args below meth c A C hr hlk hnm
  refine s_lv (lv1 := [(0, .int a0), (1, .int a1), (2, .int a2)]) [0, 1, 2] rfl ?_
  unfold f_X6_shareBy at hf
  refine s_iload_n C 1 0 rfl dX6_shareBy_0 rfl ?_
  obtain ⟨r1, q2, hf⟩ := bn_s hf
  refine s_callS0 (host := "") (rest := []) C 4 (c_X6_deed l D cI adK adV a0 r1 q2) (gS uu1208 uu1210 uu6 uu1211) hd_X6_deed rfl ⟨rfl, rfl⟩ ⟨Nat.le_of_ble_eq_true rfl, Nat.le_of_ble_eq_true rfl⟩ ⟨Nat.le_of_ble_eq_true rfl, Nat.le_of_ble_eq_true rfl⟩ rfl (Nat.le_of_ble_eq_true rfl) rfl dX6_shareBy_1 ?_
  refine s_istore_n (lv1 := [(3, .int r1), (0, .int a0), (1, .int a1), (2, .int a2)]) C 5 3 rfl dX6_shareBy_4 rfl (Nat.le_of_ble_eq_true rfl) rfl ?_
  refine s_iload_n C 6 0 rfl dX6_shareBy_5 rfl ?_
  refine s_if_ne C 20 9 rfl dX6_shareBy_6 rfl (fun hc27 => ?_) (fun hc27 => ?_)
  · replace hf := ite_f hc27 hf
    refine s_iconst C 21 rfl dX6_shareBy_20 ic_0 ?_
    refine s_istore (lv1 := [(4, .int (0 : Int32)), (3, .int r1), (0, .int a0), (1, .int a1), (2, .int a2)]) C 23 4 rfl dX6_shareBy_21 (Nat.le_of_ble_eq_true rfl) rfl ?_
    refine s_iconst C 24 rfl dX6_shareBy_23 ic_0 ?_
    refine s_istore (lv1 := [(5, .int (0 : Int32)), (4, .int (0 : Int32)), (3, .int r1), (0, .int a0), (1, .int a1), (2, .int a2)]) C 26 5 rfl dX6_shareBy_24 (Nat.le_of_ble_eq_true rfl) rfl ?_
    refine s_lv (lv1 := [(0, .int a0), (1, .int a1), (2, .int a2), (3, .int r1), (4, .int (0 : Int32)), (5, .int (0 : Int32))]) [3, 4, 5, 2, 1, 0] rfl ?_
    refine s_kont (γ := Int32) (o := o) (fun KQ => f_X6_shareBy_26 a2 r1 KQ 1000 (0 : Int32) (0 : Int32) = some o) 55 (fun e5 => [(0, .int a0), (1, .int a1), (2, .int a2), (3, .int r1), (4, .int e5)]) (fun e5 => []) (fun e5 => []) hf (fun e5 hf => ?_) (fun k4 hk4 hf => ?_)
    · refine s_iload C 57 4 rfl dX6_shareBy_55 rfl ?_
      refine s_iload_n C 58 3 rfl dX6_shareBy_57 rfl ?_
      refine s_iconst C 59 rfl dX6_shareBy_58 ic_4 ?_
      refine s_iand C 60 rfl dX6_shareBy_59 ?_
      refine s_jn (α := Int32) 68 (fun j6 => [(0, .int a0), (1, .int a1), (2, .int a2), (3, .int r1), (4, .int e5)]) (fun j6 => [.int j6, .int e5]) (fun j6 => []) hf (fun j6 hf => ?_) (fun hj hf => ?_)
      · refine s_iadd C 69 rfl dX6_shareBy_68 ?_
        refine s_istore (lv1 := [(5, .int (e5 + j6)), (0, .int a0), (1, .int a1), (2, .int a2), (3, .int r1), (4, .int e5)]) C 71 5 rfl dX6_shareBy_69 (Nat.le_of_ble_eq_true rfl) rfl ?_
        refine s_iload C 73 5 rfl dX6_shareBy_71 rfl ?_
        refine s_iconst C 74 rfl dX6_shareBy_73 ic_2 ?_
        refine s_idiv C 75 rfl dX6_shareBy_74 (by decide) ?_
        refine s_iconst C 76 rfl dX6_shareBy_75 ic_2 ?_
        refine s_iload_n C 77 4 rfl dX6_shareBy_76 rfl ?_
        refine s_sipush C 80 rfl dX6_shareBy_77 sp_14336 ?_
        refine s_iand C 81 rfl dX6_shareBy_80 ?_
        obtain ⟨r8, q9, hf⟩ := bn_s hf
        refine s_callS0 (host := "") (rest := [.int (2 : Int32), .int (e5 / (2 : Int32))]) C 84 (c_X6_bits l D cI adK adV (r1 &&& (14336 : Int32)) r8 q9) (gS uu1177 uu1179 uu6 uu1180) hd_X6_bits rfl ⟨rfl, rfl⟩ ⟨Nat.le_of_ble_eq_true rfl, Nat.le_of_ble_eq_true rfl⟩ ⟨Nat.le_of_ble_eq_true rfl, Nat.le_of_ble_eq_true rfl⟩ rfl (Nat.le_of_ble_eq_true rfl) rfl dX6_shareBy_81 ?_
        refine s_imul C 85 rfl dX6_shareBy_84 ?_
        refine s_iadd C 86 rfl dX6_shareBy_85 ?_
        refine s_istore (lv1 := [(6, .int ((e5 / (2 : Int32)) + ((2 : Int32) * r8))), (5, .int (e5 + j6)), (0, .int a0), (1, .int a1), (2, .int a2), (3, .int r1), (4, .int e5)]) C 88 6 rfl dX6_shareBy_86 (Nat.le_of_ble_eq_true rfl) rfl ?_
        refine s_iload_n C 89 3 rfl dX6_shareBy_88 rfl ?_
        by_cases hc10 : a1 = (1 : Int32)
        · replace hf := ite_t hc10 hf
          refine s_tableIn (off := 35) C 124 dX6_shareBy_89 (by rw [hc10]; decide) (by rw [hc10]; decide) (by rw [hc10]; rfl) rfl ?_
          refine s_iload C 126 1 rfl dX6_shareBy_124 rfl ?_
          obtain rfl := Option.some.inj hf
          exact s_iret C (fun i => i) hr hlk rfl rfl dX6_shareBy_126
        · replace hf := ite_f hc10 hf
          by_cases hc11 : a1 = (2 : Int32)
          · replace hf := ite_t hc11 hf
            refine s_tableIn (off := 38) C 127 dX6_shareBy_89 (by rw [hc11]; decide) (by rw [hc11]; decide) (by rw [hc11]; rfl) rfl ?_
            refine s_iload C 129 0 rfl dX6_shareBy_127 rfl ?_
            obtain rfl := Option.some.inj hf
            exact s_iret C (fun i => i) hr hlk rfl rfl dX6_shareBy_129
          · replace hf := ite_f hc11 hf
            by_cases hc12 : a1 = (3 : Int32)
            · replace hf := ite_t hc12 hf
              refine s_tableIn (off := 41) C 130 dX6_shareBy_89 (by rw [hc12]; decide) (by rw [hc12]; decide) (by rw [hc12]; rfl) rfl ?_
              refine s_iload C 132 1 rfl dX6_shareBy_130 rfl ?_
              refine s_iconst C 133 rfl dX6_shareBy_132 ic_3 ?_
              refine s_idiv C 134 rfl dX6_shareBy_133 (by decide) ?_
              obtain rfl := Option.some.inj hf
              exact s_iret C (fun i => i) hr hlk rfl rfl dX6_shareBy_134
            · replace hf := ite_f hc12 hf
              by_cases hc17 : a1 = (4 : Int32)
              · replace hf := ite_t hc17 hf
                refine s_tableIn (off := 46) C 135 dX6_shareBy_89 (by rw [hc17]; decide) (by rw [hc17]; decide) (by rw [hc17]; rfl) rfl ?_
                refine s_iconst C 136 rfl dX6_shareBy_135 ic_0 ?_
                refine s_bipush C 138 rfl dX6_shareBy_136 bp_25 ?_
                refine s_iload_n C 139 2 rfl dX6_shareBy_138 rfl ?_
                obtain ⟨r13, q14, hf⟩ := bn_s hf
                refine s_callS0 (host := "") (rest := [.int (25 : Int32), .int (0 : Int32)]) C 142 (c_X6_bits l D cI adK adV a0 r13 q14) (gS uu1177 uu1179 uu6 uu1180) hd_X6_bits rfl ⟨rfl, rfl⟩ ⟨Nat.le_of_ble_eq_true rfl, Nat.le_of_ble_eq_true rfl⟩ ⟨Nat.le_of_ble_eq_true rfl, Nat.le_of_ble_eq_true rfl⟩ rfl (Nat.le_of_ble_eq_true rfl) rfl dX6_shareBy_139 ?_
                refine s_isub C 143 rfl dX6_shareBy_142 ?_
                refine s_iload_n C 144 4 rfl dX6_shareBy_143 rfl ?_
                refine s_isub C 145 rfl dX6_shareBy_144 ?_
                obtain ⟨r15, q16, hf⟩ := bn_s hf
                refine s_callS0 (host := "") (rest := []) C 148 (c_X6_most l D cI adK adV (0 : Int32) (((25 : Int32) - r13) - a2) r15 q16) (gS uu1223 uu1225 uu6 uu1226) hd_X6_most rfl ⟨rfl, rfl⟩ ⟨Nat.le_of_ble_eq_true rfl, Nat.le_of_ble_eq_true rfl⟩ ⟨Nat.le_of_ble_eq_true rfl, Nat.le_of_ble_eq_true rfl⟩ rfl (Nat.le_of_ble_eq_true rfl) rfl dX6_shareBy_145 ?_
                obtain rfl := Option.some.inj hf
                exact s_iret C (fun i => i) hr hlk rfl rfl dX6_shareBy_148
              · replace hf := ite_f hc17 hf
                by_cases hc20 : a1 = (5 : Int32)
                · replace hf := ite_t hc20 hf
                  refine s_tableIn (off := 60) C 149 dX6_shareBy_89 (by rw [hc20]; decide) (by rw [hc20]; decide) (by rw [hc20]; rfl) rfl ?_
                  refine s_iload C 151 0 rfl dX6_shareBy_149 rfl ?_
                  refine s_iload_n C 152 2 rfl dX6_shareBy_151 rfl ?_
                  obtain ⟨r18, q19, hf⟩ := bn_s hf
                  refine s_callS0 (host := "") (rest := [.int ((e5 / (2 : Int32)) + ((2 : Int32) * r8))]) C 155 (c_X6_heaps l D cI adK adV a0 r18 q19) (gS uu1228 uu1230 uu6 uu1231) hd_X6_heaps rfl ⟨rfl, rfl⟩ ⟨Nat.le_of_ble_eq_true rfl, Nat.le_of_ble_eq_true rfl⟩ ⟨Nat.le_of_ble_eq_true rfl, Nat.le_of_ble_eq_true rfl⟩ rfl (Nat.le_of_ble_eq_true rfl) rfl dX6_shareBy_152 ?_
                  refine s_iadd C 156 rfl dX6_shareBy_155 ?_
                  refine s_iconst C 157 rfl dX6_shareBy_156 ic_1 ?_
                  refine s_isub C 158 rfl dX6_shareBy_157 ?_
                  obtain rfl := Option.some.inj hf
                  exact s_iret C (fun i => i) hr hlk rfl rfl dX6_shareBy_158
                · replace hf := ite_f hc20 hf
                  refine s_tableOut C 159 dX6_shareBy_89 (sw_out_X6_shareBy_89 hc10 hc11 hc12 hc17 hc20) rfl ?_
                  refine s_iload C 161 6 rfl dX6_shareBy_159 rfl ?_
                  obtain rfl := Option.some.inj hf
                  exact s_iret C (fun i => i) hr hlk rfl rfl dX6_shareBy_161
      · refine s_if_eq C 67 63 rfl dX6_shareBy_60 rfl (fun hc7 => ?_) (fun hc7 => ?_)
        · replace hf := jn_t hc7 hf
          refine s_iconst C 68 rfl dX6_shareBy_67 ic_0 ?_
          replace hf := jn_i hf
          exact s_lv [0, 1, 2, 3, 4] rfl (hj ((0 : Int32) : Int32) hf)
        · replace hf := jn_f hc7 hf
          refine s_iconst C 64 rfl dX6_shareBy_63 ic_5 ?_
          refine s_goto C 68 dX6_shareBy_64 rfl ?_
          replace hf := jn_i hf
          exact s_lv [0, 1, 2, 3, 4] rfl (hj ((5 : Int32) : Int32) hf)
    · skip
      refine s_loop (α := Int32 × Int32) (fun n v23 => f_X6_shareBy_26 a2 r1 k4 n v23.1 v23.2) 26 (fun v23 => [(0, .int a0), (1, .int a1), (2, .int a2), (3, .int r1), (4, .int v23.1), (5, .int v23.2)]) (fun v23 => []) 1000 ((0 : Int32), (0 : Int32)) hf (fun v23 hf => by simp only [f_X6_shareBy_26] at hf; exact absurd hf (by simp)) (fun n ih24 v23 hf => ?_)
      replace hf := (f_X6_shareBy_26_s _ _ _ _ _ _).symm.trans hf
      refine s_iload C 28 5 rfl dX6_shareBy_26 rfl ?_
      refine s_iconst C 29 rfl dX6_shareBy_28 ic_5 ?_
      refine s_icmp_ge C 55 32 rfl dX6_shareBy_29 rfl (fun hc25 => ?_) (fun hc25 => ?_)
      · replace hf := ite_t hc25 hf
        exact s_lv [0, 1, 2, 3, 4] rfl (hk4 (v23.1 : Int32) hf)
      · replace hf := ite_f hc25 hf
        refine s_iload C 34 4 rfl dX6_shareBy_32 rfl ?_
        refine s_iload_n C 35 3 rfl dX6_shareBy_34 rfl ?_
        refine s_iconst C 36 rfl dX6_shareBy_35 ic_5 ?_
        refine s_iload C 38 5 rfl dX6_shareBy_36 rfl ?_
        refine s_imul C 39 rfl dX6_shareBy_38 ?_
        refine s_iload_n C 40 2 rfl dX6_shareBy_39 rfl ?_
        refine s_iconst C 41 rfl dX6_shareBy_40 ic_5 ?_
        refine s_irem C 42 rfl dX6_shareBy_41 (by decide) ?_
        refine s_iadd C 43 rfl dX6_shareBy_42 ?_
        refine s_ishr C 44 rfl dX6_shareBy_43 ?_
        refine s_iconst C 45 rfl dX6_shareBy_44 ic_1 ?_
        refine s_iand C 46 rfl dX6_shareBy_45 ?_
        refine s_iadd C 47 rfl dX6_shareBy_46 ?_
        refine s_istore (lv1 := [(4, .int (v23.1 + ((jshr r1 (((5 : Int32) * v23.2) + (jrem a2 (5 : Int32)))) &&& (1 : Int32)))), (0, .int a0), (1, .int a1), (2, .int a2), (3, .int r1), (5, .int v23.2)]) C 49 4 rfl dX6_shareBy_47 (Nat.le_of_ble_eq_true rfl) rfl ?_
        refine s_iinc (lv1 := [(5, .int (v23.2 + (1 : Int32))), (4, .int (v23.1 + ((jshr r1 (((5 : Int32) * v23.2) + (jrem a2 (5 : Int32)))) &&& (1 : Int32)))), (0, .int a0), (1, .int a1), (2, .int a2), (3, .int r1)]) C 52 5 5 rfl dX6_shareBy_49 rfl ic_1 (Nat.le_of_ble_eq_true rfl) rfl ?_
        refine s_goto C 26 dX6_shareBy_52 rfl ?_
        exact s_lv [2, 3, 4, 5, 1, 0] rfl (ih24 ((v23.1 + ((jshr r1 (((5 : Int32) * v23.2) + (jrem a2 (5 : Int32)))) &&& (1 : Int32)), v23.2 + (1 : Int32)) : Int32 × Int32) hf)
  · replace hf := ite_t hc27 hf
    refine s_iload_n C 10 2 rfl dX6_shareBy_9 rfl ?_
    refine s_iconst C 11 rfl dX6_shareBy_10 ic_3 ?_
    refine s_icmp_ne C 18 14 rfl dX6_shareBy_11 rfl (fun hc26 => ?_) (fun hc26 => ?_)
    · replace hf := ite_f hc26 hf
      refine s_iconst C 19 rfl dX6_shareBy_18 ic_0 ?_
      obtain rfl := Option.some.inj hf
      exact s_iret C (fun i => i) hr hlk rfl rfl dX6_shareBy_19
    · replace hf := ite_t hc26 hf
      refine s_iload_n C 15 3 rfl dX6_shareBy_14 rfl ?_
      refine s_goto C 19 dX6_shareBy_15 rfl ?_
      obtain rfl := Option.some.inj hf
      exact s_iret C (fun i => i) hr hlk rfl rfl dX6_shareBy_19


theorem hd_X6_turned : yX6_turned.cls ≠ "java/lang/invoke/MethodHandle" ∧ yX6_turned.cls ≠ "java/lang/invoke/VarHandle" ∧ (parseMethodDescriptor yX6_turned.desc).map (fun d => d.parameters.length) = some 1 := by decide +kernel
set_option maxHeartbeats 4000000 in
set_option maxRecDepth 100000 in
theorem c_X6_turned (l : Launch) (D : va_G) (cI : ClassId) (adK adV : Nat → Nat)   (a0 : Int32) (o : Int32) (hf : f_X6_turned a0 = some o) : Ct l D cI adK adV yX6_turned (wy yX6_turned cX6_turned 3 (some .int)) { frames := 0, cells := 0, slots := 0, locals := 0 } 0 0 [.int a0] [] (fun _ => []) (some (.int o)) := by
  refine Ct.of (cc := cX6_turned) (nL := 3) (ret := (some .int)) (own := RX6) (by decide) (Nat.le_of_ble_eq_true rfl) rfl ?_
  intro p e s m args below meth c A C hr hlk hnm
  refine s_lv (lv1 := [(0, .int a0)]) [0] rfl ?_
  unfold f_X6_turned at hf
  refine s_iconst C 1 rfl dX6_turned_0 ic_0 ?_
  refine s_istore_n (lv1 := [(1, .int (0 : Int32)), (0, .int a0)]) C 2 1 rfl dX6_turned_1 rfl (Nat.le_of_ble_eq_true rfl) rfl ?_
  refine s_iconst C 3 rfl dX6_turned_2 ic_0 ?_
  refine s_istore_n (lv1 := [(2, .int (0 : Int32)), (1, .int (0 : Int32)), (0, .int a0)]) C 4 2 rfl dX6_turned_3 rfl (Nat.le_of_ble_eq_true rfl) rfl ?_
  refine s_lv (lv1 := [(0, .int a0), (1, .int (0 : Int32)), (2, .int (0 : Int32))]) [2, 1, 0] rfl ?_
  refine s_loop (α := Int32 × Int32) (fun n v2 => f_X6_turned_4 a0 n v2.1 v2.2) 4 (fun v2 => [(0, .int a0), (1, .int v2.1), (2, .int v2.2)]) (fun v2 => []) 1000 ((0 : Int32), (0 : Int32)) hf (fun v2 hf => by simp only [f_X6_turned_4] at hf; exact absurd hf (by simp)) (fun n ih3 v2 hf => ?_)
  replace hf := (f_X6_turned_4_s _ _ _ _).symm.trans hf
  refine s_iload_n C 5 2 rfl dX6_turned_4 rfl ?_
  refine s_bipush C 7 rfl dX6_turned_5 bp_25 ?_
  refine s_icmp_ge C 38 10 rfl dX6_turned_7 rfl (fun hc4 => ?_) (fun hc4 => ?_)
  · replace hf := ite_t hc4 hf
    refine s_iload_n C 39 1 rfl dX6_turned_38 rfl ?_
    obtain rfl := Option.some.inj hf
    exact s_iret C (fun i => i) hr hlk rfl rfl dX6_turned_39
  · replace hf := ite_f hc4 hf
    refine s_iload_n C 11 1 rfl dX6_turned_10 rfl ?_
    refine s_iload_n C 12 0 rfl dX6_turned_11 rfl ?_
    refine s_iload_n C 13 2 rfl dX6_turned_12 rfl ?_
    refine s_ishr C 14 rfl dX6_turned_13 ?_
    refine s_iconst C 15 rfl dX6_turned_14 ic_1 ?_
    refine s_iand C 16 rfl dX6_turned_15 ?_
    refine s_iconst C 17 rfl dX6_turned_16 ic_5 ?_
    refine s_iload_n C 18 2 rfl dX6_turned_17 rfl ?_
    refine s_iconst C 19 rfl dX6_turned_18 ic_5 ?_
    refine s_irem C 20 rfl dX6_turned_19 (by decide) ?_
    refine s_imul C 21 rfl dX6_turned_20 ?_
    refine s_iconst C 22 rfl dX6_turned_21 ic_5 ?_
    refine s_iadd C 23 rfl dX6_turned_22 ?_
    refine s_iconst C 24 rfl dX6_turned_23 ic_1 ?_
    refine s_isub C 25 rfl dX6_turned_24 ?_
    refine s_iload_n C 26 2 rfl dX6_turned_25 rfl ?_
    refine s_iconst C 27 rfl dX6_turned_26 ic_5 ?_
    refine s_idiv C 28 rfl dX6_turned_27 (by decide) ?_
    refine s_isub C 29 rfl dX6_turned_28 ?_
    refine s_ishl C 30 rfl dX6_turned_29 ?_
    refine s_ior C 31 rfl dX6_turned_30 ?_
    refine s_istore_n (lv1 := [(1, .int (v2.1 ||| (jshl ((jshr a0 v2.2) &&& (1 : Int32)) (((((5 : Int32) * (jrem v2.2 (5 : Int32))) + (5 : Int32)) - (1 : Int32)) - (v2.2 / (5 : Int32)))))), (0, .int a0), (2, .int v2.2)]) C 32 1 rfl dX6_turned_31 rfl (Nat.le_of_ble_eq_true rfl) rfl ?_
    refine s_iinc (lv1 := [(2, .int (v2.2 + (1 : Int32))), (1, .int (v2.1 ||| (jshl ((jshr a0 v2.2) &&& (1 : Int32)) (((((5 : Int32) * (jrem v2.2 (5 : Int32))) + (5 : Int32)) - (1 : Int32)) - (v2.2 / (5 : Int32)))))), (0, .int a0)]) C 35 2 2 rfl dX6_turned_32 rfl ic_1 (Nat.le_of_ble_eq_true rfl) rfl ?_
    refine s_goto C 4 dX6_turned_35 rfl ?_
    exact s_lv [2, 1, 0] rfl (ih3 ((v2.1 ||| (jshl ((jshr a0 v2.2) &&& (1 : Int32)) (((((5 : Int32) * (jrem v2.2 (5 : Int32))) + (5 : Int32)) - (1 : Int32)) - (v2.2 / (5 : Int32)))), v2.2 + (1 : Int32)) : Int32 × Int32) hf)


theorem hd_X6_turnedBy : yX6_turnedBy.cls ≠ "java/lang/invoke/MethodHandle" ∧ yX6_turnedBy.cls ≠ "java/lang/invoke/VarHandle" ∧ (parseMethodDescriptor yX6_turnedBy.desc).map (fun d => d.parameters.length) = some 2 := by decide +kernel
set_option maxHeartbeats 4000000 in
set_option maxRecDepth 100000 in
theorem c_X6_turnedBy (l : Launch) (D : va_G) (cI : ClassId) (adK adV : Nat → Nat)   (a0 : Int32) (a1 : Int32) (o : Int32) (hf : f_X6_turnedBy a0 a1 = some o) : Ct l D cI adK adV yX6_turnedBy (wy yX6_turnedBy cX6_turnedBy 4 (some .int)) { frames := 1, cells := 0, slots := 0, locals := 22 } 0 0 [.int a0, .int a1] [] (fun _ => []) (some (.int o)) := by
  refine Ct.of (cc := cX6_turnedBy) (nL := 4) (ret := (some .int)) (own := RX6) (by decide) (Nat.le_of_ble_eq_true rfl) rfl ?_
  intro p e s m args below meth c A C hr hlk hnm
  refine s_lv (lv1 := [(0, .int a0), (1, .int a1)]) [0, 1] rfl ?_
  unfold f_X6_turnedBy at hf
  refine s_iload_n C 1 0 rfl dX6_turnedBy_0 rfl ?_
  refine s_istore_n (lv1 := [(2, .int a0), (0, .int a0), (1, .int a1)]) C 2 2 rfl dX6_turnedBy_1 rfl (Nat.le_of_ble_eq_true rfl) rfl ?_
  refine s_iconst C 3 rfl dX6_turnedBy_2 ic_0 ?_
  refine s_istore_n (lv1 := [(3, .int (0 : Int32)), (2, .int a0), (0, .int a0), (1, .int a1)]) C 4 3 rfl dX6_turnedBy_3 rfl (Nat.le_of_ble_eq_true rfl) rfl ?_
  refine s_lv (lv1 := [(1, .int a1), (2, .int a0), (3, .int (0 : Int32))]) [3, 1, 0] rfl ?_
  refine s_loop (α := Int32 × Int32) (fun n v4 => f_X6_turnedBy_4 a1 n v4.1 v4.2) 4 (fun v4 => [(1, .int a1), (2, .int v4.1), (3, .int v4.2)]) (fun v4 => []) 1000 (a0, (0 : Int32)) hf (fun v4 hf => by simp only [f_X6_turnedBy_4] at hf; exact absurd hf (by simp)) (fun n ih5 v4 hf => ?_)
  replace hf := (f_X6_turnedBy_4_s _ _ _ _).symm.trans hf
  refine s_iload_n C 5 2 rfl dX6_turnedBy_4 rfl ?_
  refine s_iload_n C 6 0 rfl dX6_turnedBy_5 rfl ?_
  refine s_icmp_ge C 20 9 rfl dX6_turnedBy_6 rfl (fun hc8 => ?_) (fun hc8 => ?_)
  · replace hf := ite_t hc8 hf
    refine s_iload_n C 21 1 rfl dX6_turnedBy_20 rfl ?_
    obtain rfl := Option.some.inj hf
    exact s_iret C (fun i => i) hr hlk rfl rfl dX6_turnedBy_21
  · replace hf := ite_f hc8 hf
    refine s_iload_n C 10 1 rfl dX6_turnedBy_9 rfl ?_
    obtain ⟨r6, q7, hf⟩ := bn_s hf
    refine s_callS0 (host := "") (rest := []) C 13 (c_X6_turned l D cI adK adV v4.1 r6 q7) (gS uu1151 uu1153 uu6 uu1154) hd_X6_turned rfl ⟨rfl, rfl⟩ ⟨Nat.le_of_ble_eq_true rfl, Nat.le_of_ble_eq_true rfl⟩ ⟨Nat.le_of_ble_eq_true rfl, Nat.le_of_ble_eq_true rfl⟩ rfl (Nat.le_of_ble_eq_true rfl) rfl dX6_turnedBy_10 ?_
    refine s_istore_n (lv1 := [(2, .int r6), (1, .int a1), (3, .int v4.2)]) C 14 2 rfl dX6_turnedBy_13 rfl (Nat.le_of_ble_eq_true rfl) rfl ?_
    refine s_iinc (lv1 := [(3, .int (v4.2 + (1 : Int32))), (2, .int r6), (1, .int a1)]) C 17 3 2 rfl dX6_turnedBy_14 rfl ic_1 (Nat.le_of_ble_eq_true rfl) rfl ?_
    refine s_goto C 4 dX6_turnedBy_17 rfl ?_
    exact s_lv [2, 1, 0] rfl (ih5 ((r6, v4.2 + (1 : Int32)) : Int32 × Int32) hf)

theorem sw_hole_X6_kindBy_1 {x : Int32} (h0 : ¬ x = (101 : Int32)) (h1 : ¬ x = (107 : Int32)) (h2 : ¬ x = (108 : Int32)) (h3 : ¬ x = (110 : Int32)) (h4 : ¬ x = (112 : Int32)) (h5 : ¬ x = (119 : Int32)) : (x.toInt < 101 ∨ 119 < x.toInt) ∨ (¬ x.toInt < 101 ∧ ¬ 119 < x.toInt ∧ (#[93, 103, 103, 103, 103, 103, 101, 97, 103, 91, 103, 99, 103, 103, 103, 103, 103, 103, 95] : Array Int)[(x.toInt - 101).toNat]? = some (103)) := by
  have e0 := ne_toInt h0
  rw [show ((101 : Int32) : Int32).toInt = 101 from by decide] at e0
  have e1 := ne_toInt h1
  rw [show ((107 : Int32) : Int32).toInt = 107 from by decide] at e1
  have e2 := ne_toInt h2
  rw [show ((108 : Int32) : Int32).toInt = 108 from by decide] at e2
  have e3 := ne_toInt h3
  rw [show ((110 : Int32) : Int32).toInt = 110 from by decide] at e3
  have e4 := ne_toInt h4
  rw [show ((112 : Int32) : Int32).toInt = 112 from by decide] at e4
  have e5 := ne_toInt h5
  rw [show ((119 : Int32) : Int32).toInt = 119 from by decide] at e5
  by_cases q1 : x.toInt < 101
  · exact Or.inl (Or.inl q1)
  by_cases q2 : 119 < x.toInt
  · exact Or.inl (Or.inr q2)
  refine Or.inr ⟨q1, q2, ?_⟩
  have q3 : x.toInt = 102 ∨ x.toInt = 103 ∨ x.toInt = 104 ∨ x.toInt = 105 ∨ x.toInt = 106 ∨ x.toInt = 109 ∨ x.toInt = 111 ∨ x.toInt = 113 ∨ x.toInt = 114 ∨ x.toInt = 115 ∨ x.toInt = 116 ∨ x.toInt = 117 ∨ x.toInt = 118 := by omega
  rcases q3 with q | q | q | q | q | q | q | q | q | q | q | q | q <;> (rw [q]; rfl)
theorem hd_X6_kindBy : yX6_kindBy.cls ≠ "java/lang/invoke/MethodHandle" ∧ yX6_kindBy.cls ≠ "java/lang/invoke/VarHandle" ∧ (parseMethodDescriptor yX6_kindBy.desc).map (fun d => d.parameters.length) = some 1 := by decide +kernel
set_option maxHeartbeats 4000000 in
set_option maxRecDepth 100000 in
theorem c_X6_kindBy (l : Launch) (D : va_G) (cI : ClassId) (adK adV : Nat → Nat)   (a0 : Int32) (o : Int32) (hf : f_X6_kindBy a0 = some o) : Ct l D cI adK adV yX6_kindBy (wy yX6_kindBy cX6_kindBy 1 (some .int)) { frames := 0, cells := 0, slots := 0, locals := 0 } 0 0 [.int a0] [] (fun _ => []) (some (.int o)) := by
  refine Ct.of (cc := cX6_kindBy) (nL := 1) (ret := (some .int)) (own := RX6) (by decide) (Nat.le_of_ble_eq_true rfl) rfl ?_
  intro p e s m args below meth c A C hr hlk hnm
  refine s_lv (lv1 := [(0, .int a0)]) [0] rfl ?_
  unfold f_X6_kindBy at hf
  refine s_iload_n C 1 0 rfl dX6_kindBy_0 rfl ?_
  by_cases hc1 : a0 = (101 : Int32)
  · replace hf := ite_t hc1 hf
    refine s_tableIn (off := 93) C 94 dX6_kindBy_1 (by rw [hc1]; decide) (by rw [hc1]; decide) (by rw [hc1]; rfl) rfl ?_
    refine s_iconst C 95 rfl dX6_kindBy_94 ic_1 ?_
    obtain rfl := Option.some.inj hf
    exact s_iret C (fun i => i) hr hlk rfl rfl dX6_kindBy_95
  · replace hf := ite_f hc1 hf
    by_cases hc2 : a0 = (107 : Int32)
    · replace hf := ite_t hc2 hf
      refine s_tableIn (off := 101) C 102 dX6_kindBy_1 (by rw [hc2]; decide) (by rw [hc2]; decide) (by rw [hc2]; rfl) rfl ?_
      refine s_iconst C 103 rfl dX6_kindBy_102 ic_5 ?_
      obtain rfl := Option.some.inj hf
      exact s_iret C (fun i => i) hr hlk rfl rfl dX6_kindBy_103
    · replace hf := ite_f hc2 hf
      by_cases hc3 : a0 = (108 : Int32)
      · replace hf := ite_t hc3 hf
        refine s_tableIn (off := 97) C 98 dX6_kindBy_1 (by rw [hc3]; decide) (by rw [hc3]; decide) (by rw [hc3]; rfl) rfl ?_
        refine s_iconst C 99 rfl dX6_kindBy_98 ic_3 ?_
        obtain rfl := Option.some.inj hf
        exact s_iret C (fun i => i) hr hlk rfl rfl dX6_kindBy_99
      · replace hf := ite_f hc3 hf
        by_cases hc4 : a0 = (110 : Int32)
        · replace hf := ite_t hc4 hf
          refine s_tableIn (off := 91) C 92 dX6_kindBy_1 (by rw [hc4]; decide) (by rw [hc4]; decide) (by rw [hc4]; rfl) rfl ?_
          refine s_iconst C 93 rfl dX6_kindBy_92 ic_0 ?_
          obtain rfl := Option.some.inj hf
          exact s_iret C (fun i => i) hr hlk rfl rfl dX6_kindBy_93
        · replace hf := ite_f hc4 hf
          by_cases hc5 : a0 = (112 : Int32)
          · replace hf := ite_t hc5 hf
            refine s_tableIn (off := 99) C 100 dX6_kindBy_1 (by rw [hc5]; decide) (by rw [hc5]; decide) (by rw [hc5]; rfl) rfl ?_
            refine s_iconst C 101 rfl dX6_kindBy_100 ic_4 ?_
            obtain rfl := Option.some.inj hf
            exact s_iret C (fun i => i) hr hlk rfl rfl dX6_kindBy_101
          · replace hf := ite_f hc5 hf
            by_cases hc6 : a0 = (119 : Int32)
            · replace hf := ite_t hc6 hf
              refine s_tableIn (off := 95) C 96 dX6_kindBy_1 (by rw [hc6]; decide) (by rw [hc6]; decide) (by rw [hc6]; rfl) rfl ?_
              refine s_iconst C 97 rfl dX6_kindBy_96 ic_2 ?_
              obtain rfl := Option.some.inj hf
              exact s_iret C (fun i => i) hr hlk rfl rfl dX6_kindBy_97
            · replace hf := ite_f hc6 hf
              refine s_tableH C 104 dX6_kindBy_1 (sw_hole_X6_kindBy_1 hc1 hc2 hc3 hc4 hc5 hc6) rfl ?_
              refine s_bipush C 106 rfl dX6_kindBy_104 bp_m9 ?_
              obtain rfl := Option.some.inj hf
              exact s_iret C (fun i => i) hr hlk rfl rfl dX6_kindBy_106


theorem hd_X6_wrongBy : yX6_wrongBy.cls ≠ "java/lang/invoke/MethodHandle" ∧ yX6_wrongBy.cls ≠ "java/lang/invoke/VarHandle" ∧ (parseMethodDescriptor yX6_wrongBy.desc).map (fun d => d.parameters.length) = some 2 := by decide +kernel
set_option maxHeartbeats 4000000 in
set_option maxRecDepth 100000 in
theorem c_X6_wrongBy (l : Launch) (D : va_G) (cI : ClassId) (adK adV : Nat → Nat)   (a0 : Int32) (a1 : Int32) (o : Int32) (hf : f_X6_wrongBy a0 a1 = some o) : Ct l D cI adK adV yX6_wrongBy (wy yX6_wrongBy cX6_wrongBy 2 (some .int)) { frames := 0, cells := 0, slots := 0, locals := 0 } 0 0 [.int a0, .int a1] [] (fun _ => []) (some (.int o)) := by
  refine Ct.of (cc := cX6_wrongBy) (nL := 2) (ret := (some .int)) (own := RX6) (by decide) (Nat.le_of_ble_eq_true rfl) rfl ?_
  intro p e s m args below meth c A C hr hlk hnm
  refine s_lv (lv1 := [(0, .int a0), (1, .int a1)]) [0, 1] rfl ?_
  unfold f_X6_wrongBy at hf
  refine s_iload_n C 1 0 rfl dX6_wrongBy_0 rfl ?_
  refine s_if_ge C 9 4 rfl dX6_wrongBy_1 rfl (fun hc2 => ?_) (fun hc2 => ?_)
  · replace hf := ite_t hc2 hf
    refine s_iload_n C 10 0 rfl dX6_wrongBy_9 rfl ?_
    refine s_iload_n C 11 1 rfl dX6_wrongBy_10 rfl ?_
    refine s_icmp_le C 19 14 rfl dX6_wrongBy_11 rfl (fun hc1 => ?_) (fun hc1 => ?_)
    · replace hf := ite_t hc1 hf
      refine s_iconst C 20 rfl dX6_wrongBy_19 ic_0 ?_
      obtain rfl := Option.some.inj hf
      exact s_iret C (fun i => i) hr hlk rfl rfl dX6_wrongBy_20
    · replace hf := ite_f hc1 hf
      refine s_bipush C 16 rfl dX6_wrongBy_14 bp_m6 ?_
      refine s_goto C 20 dX6_wrongBy_16 rfl ?_
      obtain rfl := Option.some.inj hf
      exact s_iret C (fun i => i) hr hlk rfl rfl dX6_wrongBy_20
  · replace hf := ite_f hc2 hf
    refine s_bipush C 6 rfl dX6_wrongBy_4 bp_m4 ?_
    refine s_goto C 20 dX6_wrongBy_6 rfl ?_
    obtain rfl := Option.some.inj hf
    exact s_iret C (fun i => i) hr hlk rfl rfl dX6_wrongBy_20


theorem hd_X6_leastHeap : yX6_leastHeap.cls ≠ "java/lang/invoke/MethodHandle" ∧ yX6_leastHeap.cls ≠ "java/lang/invoke/VarHandle" ∧ (parseMethodDescriptor yX6_leastHeap.desc).map (fun d => d.parameters.length) = some 1 := by decide +kernel
set_option maxHeartbeats 4000000 in
set_option maxRecDepth 100000 in
theorem c_X6_leastHeap (l : Launch) (D : va_G) (cI : ClassId) (adK adV : Nat → Nat)   (a0 : Int32) (o : Int32) (hf : f_X6_leastHeap a0 = some o) : Ct l D cI adK adV yX6_leastHeap (wy yX6_leastHeap cX6_leastHeap 4 (some .int)) { frames := 2, cells := 0, slots := 0, locals := 45 } 0 0 [.int a0] [] (fun _ => []) (some (.int o)) := by
  refine Ct.of (cc := cX6_leastHeap) (nL := 4) (ret := (some .int)) (own := RX6) (by decide) (Nat.le_of_ble_eq_true rfl) rfl ?_
  intro p e s m args below meth c A C hr hlk hnm
  refine s_lv (lv1 := [(0, .int a0)]) [0] rfl ?_
  unfold f_X6_leastHeap at hf
  refine s_iconst C 1 rfl dX6_leastHeap_0 ic_0 ?_
  refine s_istore_n (lv1 := [(1, .int (0 : Int32)), (0, .int a0)]) C 2 1 rfl dX6_leastHeap_1 rfl (Nat.le_of_ble_eq_true rfl) rfl ?_
  refine s_iconst C 3 rfl dX6_leastHeap_2 ic_0 ?_
  refine s_istore_n (lv1 := [(2, .int (0 : Int32)), (1, .int (0 : Int32)), (0, .int a0)]) C 4 2 rfl dX6_leastHeap_3 rfl (Nat.le_of_ble_eq_true rfl) rfl ?_
  refine s_lv (lv1 := [(0, .int a0), (1, .int (0 : Int32)), (2, .int (0 : Int32))]) [2, 1, 0] rfl ?_
  refine s_loop (α := Int32 × Int32) (fun n v10 => f_X6_leastHeap_4 a0 n v10.1 v10.2) 4 (fun v10 => [(0, .int a0), (1, .int v10.1), (2, .int v10.2)]) (fun v10 => []) 1000 ((0 : Int32), (0 : Int32)) hf (fun v10 hf => by simp only [f_X6_leastHeap_4] at hf; exact absurd hf (by simp)) (fun n ih11 v10 hf => ?_)
  replace hf := (f_X6_leastHeap_4_s _ _ _ _).symm.trans hf
  refine s_iload_n C 5 2 rfl dX6_leastHeap_4 rfl ?_
  refine s_bipush C 7 rfl dX6_leastHeap_5 bp_25 ?_
  refine s_icmp_ge C 44 10 rfl dX6_leastHeap_7 rfl (fun hc20 => ?_) (fun hc20 => ?_)
  · replace hf := ite_t hc20 hf
    refine s_iload_n C 45 1 rfl dX6_leastHeap_44 rfl ?_
    obtain rfl := Option.some.inj hf
    exact s_iret C (fun i => i) hr hlk rfl rfl dX6_leastHeap_45
  · replace hf := ite_f hc20 hf
    refine s_iload_n C 11 0 rfl dX6_leastHeap_10 rfl ?_
    refine s_iload_n C 12 2 rfl dX6_leastHeap_11 rfl ?_
    obtain ⟨r12, q13, hf⟩ := bn_s hf
    refine s_callS0 (host := "") (rest := []) C 15 (c_X6_heapOf l D cI adK adV a0 v10.2 r12 q13) (gS uu1182 uu1184 uu6 uu1185) hd_X6_heapOf rfl ⟨rfl, rfl⟩ ⟨Nat.le_of_ble_eq_true rfl, Nat.le_of_ble_eq_true rfl⟩ ⟨Nat.le_of_ble_eq_true rfl, Nat.le_of_ble_eq_true rfl⟩ rfl (Nat.le_of_ble_eq_true rfl) rfl dX6_leastHeap_12 ?_
    obtain ⟨r14, q15, hf⟩ := bn_s hf
    refine s_callS0 (host := "") (rest := []) C 18 (c_X6_bits l D cI adK adV r12 r14 q15) (gS uu1177 uu1179 uu6 uu1180) hd_X6_bits rfl ⟨rfl, rfl⟩ ⟨Nat.le_of_ble_eq_true rfl, Nat.le_of_ble_eq_true rfl⟩ ⟨Nat.le_of_ble_eq_true rfl, Nat.le_of_ble_eq_true rfl⟩ rfl (Nat.le_of_ble_eq_true rfl) rfl dX6_leastHeap_15 ?_
    refine s_istore_n (lv1 := [(3, .int r14), (0, .int a0), (1, .int v10.1), (2, .int v10.2)]) C 19 3 rfl dX6_leastHeap_18 rfl (Nat.le_of_ble_eq_true rfl) rfl ?_
    refine s_iload_n C 20 0 rfl dX6_leastHeap_19 rfl ?_
    refine s_jn (α := Int32) 37 (fun j16 => [(0, .int a0), (2, .int v10.2)]) (fun j16 => [.int j16]) (fun j16 => []) hf (fun j16 hf => ?_) (fun hj hf => ?_)
    · refine s_istore_n (lv1 := [(1, .int j16), (0, .int a0), (2, .int v10.2)]) C 38 1 rfl dX6_leastHeap_37 rfl (Nat.le_of_ble_eq_true rfl) rfl ?_
      refine s_iinc (lv1 := [(2, .int (v10.2 + (1 : Int32))), (1, .int j16), (0, .int a0)]) C 41 2 2 rfl dX6_leastHeap_38 rfl ic_1 (Nat.le_of_ble_eq_true rfl) rfl ?_
      refine s_goto C 4 dX6_leastHeap_41 rfl ?_
      exact s_lv [2, 1, 0] rfl (ih11 ((j16, v10.2 + (1 : Int32)) : Int32 × Int32) hf)
    · refine s_if_le C 36 23 rfl dX6_leastHeap_20 rfl (fun hc19 => ?_) (fun hc19 => ?_)
      · replace hf := jn_t hc19 hf
        refine s_iload_n C 37 2 rfl dX6_leastHeap_36 rfl ?_
        replace hf := jn_i hf
        exact s_lv [1, 3] rfl (hj (v10.1 : Int32) hf)
      · replace hf := jn_f hc19 hf
        refine s_iload_n C 24 2 rfl dX6_leastHeap_23 rfl ?_
        refine s_if_eq C 32 27 rfl dX6_leastHeap_24 rfl (fun hc18 => ?_) (fun hc18 => ?_)
        · replace hf := jn_t hc18 hf
          refine s_iload_n C 33 0 rfl dX6_leastHeap_32 rfl ?_
          refine s_goto C 37 dX6_leastHeap_33 rfl ?_
          replace hf := jn_i hf
          exact s_lv [1, 3] rfl (hj (r14 : Int32) hf)
        · replace hf := jn_f hc18 hf
          refine s_iload_n C 28 0 rfl dX6_leastHeap_27 rfl ?_
          refine s_iload_n C 29 2 rfl dX6_leastHeap_28 rfl ?_
          refine s_icmp_ge C 36 32 rfl dX6_leastHeap_29 rfl (fun hc17 => ?_) (fun hc17 => ?_)
          · replace hf := jn_t hc17 hf
            refine s_iload_n C 37 2 rfl dX6_leastHeap_36 rfl ?_
            replace hf := jn_i hf
            exact s_lv [1, 3] rfl (hj (v10.1 : Int32) hf)
          · replace hf := jn_f hc17 hf
            refine s_iload_n C 33 0 rfl dX6_leastHeap_32 rfl ?_
            refine s_goto C 37 dX6_leastHeap_33 rfl ?_
            replace hf := jn_i hf
            exact s_lv [1, 3] rfl (hj (r14 : Int32) hf)


theorem hd_X6_border : yX6_border.cls ≠ "java/lang/invoke/MethodHandle" ∧ yX6_border.cls ≠ "java/lang/invoke/VarHandle" ∧ (parseMethodDescriptor yX6_border.desc).map (fun d => d.parameters.length) = some 0 := by decide +kernel
set_option maxHeartbeats 4000000 in
set_option maxRecDepth 100000 in
theorem c_X6_border (l : Launch) (D : va_G) (cI : ClassId) (adK adV : Nat → Nat)    (o : Int32) (hf : f_X6_border  = some o) : Ct l D cI adK adV yX6_border (wy yX6_border cX6_border 2 (some .int)) { frames := 0, cells := 0, slots := 0, locals := 0 } 0 0 [] [] (fun _ => []) (some (.int o)) := by
  refine Ct.of (cc := cX6_border) (nL := 2) (ret := (some .int)) (own := RX6) (by decide) (Nat.le_of_ble_eq_true rfl) rfl ?_
  intro p e s m args below meth c A C hr hlk hnm
  refine s_lv (lv1 := []) [] rfl ?_
  unfold f_X6_border at hf
  refine s_iconst C 1 rfl dX6_border_0 ic_0 ?_
  refine s_istore_n (lv1 := [(0, .int (0 : Int32))]) C 2 0 rfl dX6_border_1 rfl (Nat.le_of_ble_eq_true rfl) rfl ?_
  refine s_iconst C 3 rfl dX6_border_2 ic_0 ?_
  refine s_istore_n (lv1 := [(1, .int (0 : Int32)), (0, .int (0 : Int32))]) C 4 1 rfl dX6_border_3 rfl (Nat.le_of_ble_eq_true rfl) rfl ?_
  refine s_lv (lv1 := [(0, .int (0 : Int32)), (1, .int (0 : Int32))]) [1, 0] rfl ?_
  refine s_loop (α := Int32 × Int32) (fun n v7 => f_X6_border_4 n v7.1 v7.2) 4 (fun v7 => [(0, .int v7.1), (1, .int v7.2)]) (fun v7 => []) 1000 ((0 : Int32), (0 : Int32)) hf (fun v7 hf => by simp only [f_X6_border_4] at hf; exact absurd hf (by simp)) (fun n ih8 v7 hf => ?_)
  replace hf := (f_X6_border_4_s _ _ _).symm.trans hf
  refine s_iload_n C 5 1 rfl dX6_border_4 rfl ?_
  refine s_bipush C 7 rfl dX6_border_5 bp_25 ?_
  refine s_icmp_ge C 50 10 rfl dX6_border_7 rfl (fun hc14 => ?_) (fun hc14 => ?_)
  · replace hf := ite_t hc14 hf
    refine s_iload_n C 51 0 rfl dX6_border_50 rfl ?_
    obtain rfl := Option.some.inj hf
    exact s_iret C (fun i => i) hr hlk rfl rfl dX6_border_51
  · replace hf := ite_f hc14 hf
    refine s_iload_n C 11 0 rfl dX6_border_10 rfl ?_
    refine s_iload_n C 12 1 rfl dX6_border_11 rfl ?_
    refine s_iconst C 13 rfl dX6_border_12 ic_5 ?_
    refine s_jn (α := Int32) 42 (fun j9 => [(1, .int v7.2)]) (fun j9 => [.int j9, .int v7.1]) (fun j9 => []) hf (fun j9 hf => ?_) (fun hj hf => ?_)
    · refine s_ior C 43 rfl dX6_border_42 ?_
      refine s_istore_n (lv1 := [(0, .int (v7.1 ||| j9)), (1, .int v7.2)]) C 44 0 rfl dX6_border_43 rfl (Nat.le_of_ble_eq_true rfl) rfl ?_
      refine s_iinc (lv1 := [(1, .int (v7.2 + (1 : Int32))), (0, .int (v7.1 ||| j9))]) C 47 1 1 rfl dX6_border_44 rfl ic_1 (Nat.le_of_ble_eq_true rfl) rfl ?_
      refine s_goto C 4 dX6_border_47 rfl ?_
      exact s_lv [1, 0] rfl (ih8 ((v7.1 ||| j9, v7.2 + (1 : Int32)) : Int32 × Int32) hf)
    · refine s_icmp_lt C 35 16 rfl dX6_border_13 rfl (fun hc13 => ?_) (fun hc13 => ?_)
      · replace hf := jn_t hc13 hf
        refine s_iconst C 36 rfl dX6_border_35 ic_1 ?_
        refine s_iload_n C 37 1 rfl dX6_border_36 rfl ?_
        refine s_ishl C 38 rfl dX6_border_37 ?_
        refine s_goto C 42 dX6_border_38 rfl ?_
        replace hf := jn_i hf
        exact s_lv [1] rfl (hj (jshl (1 : Int32) v7.2 : Int32) hf)
      · replace hf := jn_f hc13 hf
        refine s_iload_n C 17 1 rfl dX6_border_16 rfl ?_
        refine s_bipush C 19 rfl dX6_border_17 bp_20 ?_
        refine s_icmp_ge C 35 22 rfl dX6_border_19 rfl (fun hc12 => ?_) (fun hc12 => ?_)
        · replace hf := jn_t hc12 hf
          refine s_iconst C 36 rfl dX6_border_35 ic_1 ?_
          refine s_iload_n C 37 1 rfl dX6_border_36 rfl ?_
          refine s_ishl C 38 rfl dX6_border_37 ?_
          refine s_goto C 42 dX6_border_38 rfl ?_
          replace hf := jn_i hf
          exact s_lv [1] rfl (hj (jshl (1 : Int32) v7.2 : Int32) hf)
        · replace hf := jn_f hc12 hf
          refine s_iload_n C 23 1 rfl dX6_border_22 rfl ?_
          refine s_iconst C 24 rfl dX6_border_23 ic_5 ?_
          refine s_irem C 25 rfl dX6_border_24 (by decide) ?_
          refine s_if_eq C 35 28 rfl dX6_border_25 rfl (fun hc11 => ?_) (fun hc11 => ?_)
          · replace hf := jn_t hc11 hf
            refine s_iconst C 36 rfl dX6_border_35 ic_1 ?_
            refine s_iload_n C 37 1 rfl dX6_border_36 rfl ?_
            refine s_ishl C 38 rfl dX6_border_37 ?_
            refine s_goto C 42 dX6_border_38 rfl ?_
            replace hf := jn_i hf
            exact s_lv [1] rfl (hj (jshl (1 : Int32) v7.2 : Int32) hf)
          · replace hf := jn_f hc11 hf
            refine s_iload_n C 29 1 rfl dX6_border_28 rfl ?_
            refine s_iconst C 30 rfl dX6_border_29 ic_5 ?_
            refine s_irem C 31 rfl dX6_border_30 (by decide) ?_
            refine s_iconst C 32 rfl dX6_border_31 ic_4 ?_
            refine s_icmp_ne C 41 35 rfl dX6_border_32 rfl (fun hc10 => ?_) (fun hc10 => ?_)
            · replace hf := jn_f hc10 hf
              refine s_iconst C 42 rfl dX6_border_41 ic_0 ?_
              replace hf := jn_i hf
              exact s_lv [1] rfl (hj ((0 : Int32) : Int32) hf)
            · replace hf := jn_t hc10 hf
              refine s_iconst C 36 rfl dX6_border_35 ic_1 ?_
              refine s_iload_n C 37 1 rfl dX6_border_36 rfl ?_
              refine s_ishl C 38 rfl dX6_border_37 ?_
              refine s_goto C 42 dX6_border_38 rfl ?_
              replace hf := jn_i hf
              exact s_lv [1] rfl (hj (jshl (1 : Int32) v7.2 : Int32) hf)


theorem hd_X6_after : yX6_after.cls ≠ "java/lang/invoke/MethodHandle" ∧ yX6_after.cls ≠ "java/lang/invoke/VarHandle" ∧ (parseMethodDescriptor yX6_after.desc).map (fun d => d.parameters.length) = some 2 := by decide +kernel
set_option maxHeartbeats 4000000 in
set_option maxRecDepth 100000 in
theorem c_X6_after (l : Launch) (D : va_G) (cI : ClassId) (adK adV : Nat → Nat)   (a0 : Int32) (a1 : Int32) (o : Int32) (hf : f_X6_after a0 a1 = some o) : Ct l D cI adK adV yX6_after (wy yX6_after cX6_after 2 (some .int)) { frames := 1, cells := 0, slots := 0, locals := 24 } 0 0 [.int a0, .int a1] [] (fun _ => []) (some (.int o)) := by
  refine Ct.of (cc := cX6_after) (nL := 2) (ret := (some .int)) (own := RX6) (by decide) (Nat.le_of_ble_eq_true rfl) rfl ?_
  intro p e s m args below meth c A C hr hlk hnm
  refine s_lv (lv1 := [(0, .int a0), (1, .int a1)]) [0, 1] rfl ?_
  unfold f_X6_after at hf
  refine s_iload_n C 1 1 rfl dX6_after_0 rfl ?_
  refine s_if_ge C 8 4 rfl dX6_after_1 rfl (fun hc3 => ?_) (fun hc3 => ?_)
  · replace hf := ite_t hc3 hf
    refine s_iload_n C 9 0 rfl dX6_after_8 rfl ?_
    refine s_iload_n C 10 1 rfl dX6_after_9 rfl ?_
    refine s_bipush C 12 rfl dX6_after_10 bp_100 ?_
    refine s_idiv C 13 rfl dX6_after_12 (by decide) ?_
    refine s_iload_n C 14 1 rfl dX6_after_13 rfl ?_
    refine s_bipush C 16 rfl dX6_after_14 bp_100 ?_
    refine s_irem C 17 rfl dX6_after_16 (by decide) ?_
    obtain ⟨r1, q2, hf⟩ := bn_s hf
    refine s_callS0 (host := "") (rest := [.int a0]) C 20 (c_X6_bite l D cI adK adV (a1 / (100 : Int32)) (jrem a1 (100 : Int32)) r1 q2) (gS uu1131 uu1133 uu6 uu1134) hd_X6_bite rfl ⟨rfl, rfl⟩ ⟨Nat.le_of_ble_eq_true rfl, Nat.le_of_ble_eq_true rfl⟩ ⟨Nat.le_of_ble_eq_true rfl, Nat.le_of_ble_eq_true rfl⟩ rfl (Nat.le_of_ble_eq_true rfl) rfl dX6_after_17 ?_
    refine s_iconst C 21 rfl dX6_after_20 ic_m1 ?_
    refine s_ixor C 22 rfl dX6_after_21 ?_
    refine s_iand C 23 rfl dX6_after_22 ?_
    obtain rfl := Option.some.inj hf
    exact s_iret C (fun i => i) hr hlk rfl rfl dX6_after_23
  · replace hf := ite_f hc3 hf
    refine s_iload_n C 5 0 rfl dX6_after_4 rfl ?_
    refine s_goto C 23 dX6_after_5 rfl ?_
    obtain rfl := Option.some.inj hf
    exact s_iret C (fun i => i) hr hlk rfl rfl dX6_after_23


theorem hd_X6_gcd : yX6_gcd.cls ≠ "java/lang/invoke/MethodHandle" ∧ yX6_gcd.cls ≠ "java/lang/invoke/VarHandle" ∧ (parseMethodDescriptor yX6_gcd.desc).map (fun d => d.parameters.length) = some 2 := by decide +kernel
set_option maxHeartbeats 4000000 in
set_option maxRecDepth 100000 in
theorem c_X6_gcd (l : Launch) (D : va_G) (cI : ClassId) (adK adV : Nat → Nat)   (a0 : Int64) (a2 : Int64) (o : Int64) (hf : f_X6_gcd a0 a2 = some o) : Ct l D cI adK adV yX6_gcd (wy yX6_gcd cX6_gcd 10 (some .long)) { frames := 0, cells := 0, slots := 0, locals := 0 } 0 0 [.long a0, .long a2] [] (fun _ => []) (some (.long o)) := by
  refine Ct.of (cc := cX6_gcd) (nL := 10) (ret := (some .long)) (own := RX6) (by decide) (Nat.le_of_ble_eq_true rfl) rfl ?_
  intro p e s m args below meth c A C hr hlk hnm
  refine s_lv (lv1 := [(0, .long a0), (2, .long a2)]) [0, 1] rfl ?_
  unfold f_X6_gcd at hf
  refine s_lload_n C 1 0 rfl dX6_gcd_0 rfl ?_
  refine s_lstore (lv1 := [(4, .long a0), (0, .long a0), (2, .long a2)]) C 3 4 rfl dX6_gcd_1 (Nat.le_of_ble_eq_true rfl) rfl ?_
  refine s_lload_n C 4 2 rfl dX6_gcd_3 rfl ?_
  refine s_lstore (lv1 := [(6, .long a2), (4, .long a0), (0, .long a0), (2, .long a2)]) C 6 6 rfl dX6_gcd_4 (Nat.le_of_ble_eq_true rfl) rfl ?_
  refine s_lv (lv1 := [(4, .long a0), (6, .long a2)]) [1, 0] rfl ?_
  refine s_loop (α := Int64 × Int64) (fun n v3 => f_X6_gcd_6 n v3.1 v3.2) 6 (fun v3 => [(4, .long v3.1), (6, .long v3.2)]) (fun v3 => []) 1000 (a0, a2) hf (fun v3 hf => by simp only [f_X6_gcd_6] at hf; exact absurd hf (by simp)) (fun n ih4 v3 hf => ?_)
  replace hf := (f_X6_gcd_6_s _ _ _).symm.trans hf
  refine s_lload C 8 1 rfl dX6_gcd_6 rfl ?_
  refine s_lconst C 9 rfl dX6_gcd_8 lc_0 ?_
  refine s_lcmp C 10 rfl dX6_gcd_9 ?_
  refine s_if_eq C 31 13 rfl dX6_gcd_10 rfl (fun hc6 => ?_) (fun hc6 => ?_)
  · replace hf := ite_t hc6 hf
    refine s_lload C 33 0 rfl dX6_gcd_31 rfl ?_
    obtain rfl := Option.some.inj hf
    exact s_lret C (fun i => i) hr hlk rfl rfl dX6_gcd_33
  · replace hf := ite_f hc6 hf
    refine s_lload C 15 0 rfl dX6_gcd_13 rfl ?_
    refine s_lload C 17 1 rfl dX6_gcd_15 rfl ?_
    obtain ⟨h5, hf⟩ := ck_nzl hf
    refine s_lrem C 18 rfl dX6_gcd_17 h5 ?_
    refine s_lstore (lv1 := [(8, .long (jreml v3.1 v3.2)), (4, .long v3.1), (6, .long v3.2)]) C 20 8 rfl dX6_gcd_18 (Nat.le_of_ble_eq_true rfl) rfl ?_
    refine s_lload C 22 2 rfl dX6_gcd_20 rfl ?_
    refine s_lstore (lv1 := [(4, .long v3.2), (8, .long (jreml v3.1 v3.2)), (6, .long v3.2)]) C 24 4 rfl dX6_gcd_22 (Nat.le_of_ble_eq_true rfl) rfl ?_
    refine s_lload C 26 1 rfl dX6_gcd_24 rfl ?_
    refine s_lstore (lv1 := [(6, .long (jreml v3.1 v3.2)), (4, .long v3.2), (8, .long (jreml v3.1 v3.2))]) C 28 6 rfl dX6_gcd_26 (Nat.le_of_ble_eq_true rfl) rfl ?_
    refine s_goto C 6 dX6_gcd_28 rfl ?_
    exact s_lv [1, 0] rfl (ih4 ((v3.2, jreml v3.1 v3.2) : Int64 × Int64) hf)


theorem hd_X6_partOf : yX6_partOf.cls ≠ "java/lang/invoke/MethodHandle" ∧ yX6_partOf.cls ≠ "java/lang/invoke/VarHandle" ∧ (parseMethodDescriptor yX6_partOf.desc).map (fun d => d.parameters.length) = some 3 := by decide +kernel
set_option maxHeartbeats 4000000 in
set_option maxRecDepth 100000 in
theorem c_X6_partOf (l : Launch) (D : va_G) (cI : ClassId) (adK adV : Nat → Nat)   (a0 : Int64) (a2 : Int64) (a4 : Int32) (o : Int64) (hf : f_X6_partOf a0 a2 a4 = some o) : Ct l D cI adK adV yX6_partOf (wy yX6_partOf cX6_partOf 5 (some .long)) { frames := 1, cells := 0, slots := 0, locals := 29 } 0 0 [.long a0, .long a2, .int a4] [] (fun _ => []) (some (.long o)) := by
  refine Ct.of (cc := cX6_partOf) (nL := 5) (ret := (some .long)) (own := RX6) (by decide) (Nat.le_of_ble_eq_true rfl) rfl ?_
  intro p e s m args below meth c A C hr hlk hnm
  refine s_lv (lv1 := [(0, .long a0), (2, .long a2), (4, .int a4)]) [0, 1, 2] rfl ?_
  unfold f_X6_partOf at hf
  refine s_lload_n C 1 0 rfl dX6_partOf_0 rfl ?_
  refine s_lconst C 2 rfl dX6_partOf_1 lc_0 ?_
  refine s_lcmp C 3 rfl dX6_partOf_2 ?_
  refine s_if_ne C 10 6 rfl dX6_partOf_3 rfl (fun hc6 => ?_) (fun hc6 => ?_)
  · replace hf := ite_f hc6 hf
    refine s_iload C 12 2 rfl dX6_partOf_10 rfl ?_
    refine s_jn (α := Int64) 20 (fun j1 => [(0, .long a0), (2, .long a2)]) (fun j1 => [.long j1]) (fun j1 => []) hf (fun j1 hf => ?_) (fun hj hf => ?_)
    · refine s_lload_n C 21 0 rfl dX6_partOf_20 rfl ?_
      refine s_lload_n C 22 1 rfl dX6_partOf_21 rfl ?_
      obtain ⟨r3, q4, hf⟩ := bn_s hf
      refine s_callS0 (host := "") (rest := [.long j1]) C 25 (c_X6_gcd l D cI adK adV a0 a2 r3 q4) (gS uu1467 uu1469 uu6 uu1470) hd_X6_gcd rfl ⟨rfl, rfl⟩ ⟨Nat.le_of_ble_eq_true rfl, Nat.le_of_ble_eq_true rfl⟩ ⟨Nat.le_of_ble_eq_true rfl, Nat.le_of_ble_eq_true rfl⟩ rfl (Nat.le_of_ble_eq_true rfl) rfl dX6_partOf_22 ?_
      obtain ⟨h5, hf⟩ := ck_nzl hf
      refine s_ldiv C 26 rfl dX6_partOf_25 h5 ?_
      obtain rfl := Option.some.inj hf
      exact s_lret C (fun i => i) hr hlk rfl rfl dX6_partOf_26
    · refine s_if_ne C 19 15 rfl dX6_partOf_12 rfl (fun hc2 => ?_) (fun hc2 => ?_)
      · replace hf := jn_f hc2 hf
        refine s_lload_n C 20 1 rfl dX6_partOf_19 rfl ?_
        replace hf := jn_i hf
        exact s_lv [0, 1] rfl (hj (a2 : Int64) hf)
      · replace hf := jn_t hc2 hf
        refine s_lload_n C 16 0 rfl dX6_partOf_15 rfl ?_
        refine s_goto C 20 dX6_partOf_16 rfl ?_
        replace hf := jn_i hf
        exact s_lv [0, 1] rfl (hj (a0 : Int64) hf)
  · replace hf := ite_t hc6 hf
    refine s_iload C 8 2 rfl dX6_partOf_6 rfl ?_
    refine s_i2l C 9 rfl dX6_partOf_8 ?_
    obtain rfl := Option.some.inj hf
    exact s_lret C (fun i => i) hr hlk rfl rfl dX6_partOf_9

