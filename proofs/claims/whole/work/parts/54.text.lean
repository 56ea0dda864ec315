
theorem hd_X4_takes : yX4_takes.cls = RX4 ∧ yX4_takes.cls ≠ "java/lang/invoke/MethodHandle" ∧ yX4_takes.cls ≠ "java/lang/invoke/VarHandle" ∧ (parseMethodDescriptor yX4_takes.desc).map (fun d => d.parameters.length) = some 1 := by decide +kernel
set_option maxHeartbeats 4000000 in
set_option maxRecDepth 100000 in
theorem c_X4_takes (l : Launch) (D : va_G) (cI : ClassId) (adK adV : Nat → Nat) (b0 : Nat) (b1 : Nat) (x_length : Int32) (x_letters : (Nat → Int32)) (a1 : Int32) (o : Int32 × Int32 × (Nat → Int32)) (hf : f_X4_takes x_length x_letters a1 = some o) : Ct l D cI adK adV yX4_takes (wy yX4_takes cX4_takes 2 (some .int)) { frames := 0, cells := 0, slots := 0, locals := 0 } 0 0 [.ref b0, .int a1] (wText b0 b1 cI x_length x_letters) (fun _ => (wText b0 b1 cI o.2.1 o.2.2)) (some (.int o.1)) := by
  refine Ct.of (cc := cX4_takes) (nL := 2) (ret := (some .int)) (own := RX4) (by decide) (Nat.le_of_ble_eq_true rfl) rfl ?_
  intro p e s m args below meth c A C hr hlk hnm
  refine s_lv (lv1 := [(0, .ref b0), (1, .int a1)]) [0, 1] rfl ?_
  unfold f_X4_takes at hf
  refine s_aload_n C 1 0 rfl dX4_takes_0 rfl ?_
  refine s_get (C1 := RX4) (T := TX4) (N := 2) (ci := 3) C 4 0 1 uX4 rfl rfl (Nat.le_of_ble_eq_true rfl) uu124 rfl rfl rfl dX4_takes_1 ?_
  refine s_bipush C 6 rfl dX4_takes_4 bp_96 ?_
  refine s_icmp_ge C 29 9 rfl dX4_takes_6 rfl (fun hc2 => ?_) (fun hc2 => ?_)
  · replace hf := ite_t hc2 hf
    refine s_aload_n C 30 0 rfl dX4_takes_29 rfl ?_
    refine s_get (C1 := RX4) (T := TX4) (N := 2) (ci := 3) C 33 0 1 uX4 rfl rfl (Nat.le_of_ble_eq_true rfl) uu124 rfl rfl rfl dX4_takes_30 ?_
    obtain rfl := Option.some.inj hf
    exact s_iret C (fun i => i) hr hlk rfl rfl dX4_takes_33
  · replace hf := ite_f hc2 hf
    refine s_aload_n C 10 0 rfl dX4_takes_9 rfl ?_
    refine s_get (C1 := RX4) (T := TX4) (N := 2) (ci := 3) C 13 0 0 uX4 rfl rfl (Nat.le_of_ble_eq_true rfl) uu122 rfl rfl rfl dX4_takes_10 ?_
    refine s_aload_n C 14 0 rfl dX4_takes_13 rfl ?_
    refine s_get (C1 := RX4) (T := TX4) (N := 2) (ci := 3) C 17 0 1 uX4 rfl rfl (Nat.le_of_ble_eq_true rfl) uu124 rfl rfl rfl dX4_takes_14 ?_
    refine s_iload_n C 18 1 rfl dX4_takes_17 rfl ?_
    obtain ⟨h1, hf⟩ := ck_in hf
    refine s_iast (ws1 := (wText b0 b1 cI x_length (upd x_letters x_length.toNatClampNeg a1))) C 19 1 rfl h1 rfl rfl dX4_takes_18 ?_
    refine s_aload_n C 20 0 rfl dX4_takes_19 rfl ?_
    refine s_dup C 21 rfl dX4_takes_20 rfl ?_
    refine s_get (C1 := RX4) (T := TX4) (N := 2) (ci := 3) C 24 0 1 uX4 rfl rfl (Nat.le_of_ble_eq_true rfl) uu124 rfl rfl rfl dX4_takes_21 ?_
    refine s_iconst C 25 rfl dX4_takes_24 ic_1 ?_
    refine s_iadd C 26 rfl dX4_takes_25 ?_
    refine s_put (C1 := RX4) (T := TX4) (N := 2) (ci := 3) (ty := tyX4 1) (ws1 := (wText b0 b1 cI (x_length + (1 : Int32)) (upd x_letters x_length.toNatClampNeg a1))) C 29 0 1 uX4 tyX4 tyX4_ok nmX4 rfl rfl (Nat.le_of_ble_eq_true rfl) uu124 rfl rfl (tyX4_ok 1 (Nat.le_of_ble_eq_true rfl)) ⟨rfl, rfl⟩ (Nat.le_of_ble_eq_true rfl) rfl rfl dX4_takes_26 ?_
    refine s_aload_n C 30 0 rfl dX4_takes_29 rfl ?_
    refine s_get (C1 := RX4) (T := TX4) (N := 2) (ci := 3) C 33 0 1 uX4 rfl rfl (Nat.le_of_ble_eq_true rfl) uu124 rfl rfl rfl dX4_takes_30 ?_
    obtain rfl := Option.some.inj hf
    exact s_iret C (fun i => i) hr hlk rfl rfl dX4_takes_33


theorem hd_X4_letterAt : yX4_letterAt.cls = RX4 ∧ yX4_letterAt.cls ≠ "java/lang/invoke/MethodHandle" ∧ yX4_letterAt.cls ≠ "java/lang/invoke/VarHandle" ∧ (parseMethodDescriptor yX4_letterAt.desc).map (fun d => d.parameters.length) = some 1 := by decide +kernel
set_option maxHeartbeats 4000000 in
set_option maxRecDepth 100000 in
theorem c_X4_letterAt (l : Launch) (D : va_G) (cI : ClassId) (adK adV : Nat → Nat) (b0 : Nat) (b1 : Nat) (x_length : Int32) (x_letters : (Nat → Int32)) (a1 : Int32) (o : Int32) (hf : f_X4_letterAt x_length x_letters a1 = some o) : Ct l D cI adK adV yX4_letterAt (wy yX4_letterAt cX4_letterAt 2 (some .int)) { frames := 0, cells := 0, slots := 0, locals := 0 } 0 0 [.ref b0, .int a1] (wText b0 b1 cI x_length x_letters) (fun _ => (wText b0 b1 cI x_length x_letters)) (some (.int o)) := by
  refine Ct.of (cc := cX4_letterAt) (nL := 2) (ret := (some .int)) (own := RX4) (by decide) (Nat.le_of_ble_eq_true rfl) rfl ?_
  intro p e s m args below meth c A C hr hlk hnm
  refine s_lv (lv1 := [(0, .ref b0), (1, .int a1)]) [0, 1] rfl ?_
  unfold f_X4_letterAt at hf
  refine s_iload_n C 1 1 rfl dX4_letterAt_0 rfl ?_
  refine s_if_lt C 21 4 rfl dX4_letterAt_1 rfl (fun hc3 => ?_) (fun hc3 => ?_)
  · replace hf := ite_t hc3 hf
    refine s_iconst C 22 rfl dX4_letterAt_21 ic_m1 ?_
    obtain rfl := Option.some.inj hf
    exact s_iret C (fun i => i) hr hlk rfl rfl dX4_letterAt_22
  · replace hf := ite_f hc3 hf
    refine s_iload_n C 5 1 rfl dX4_letterAt_4 rfl ?_
    refine s_aload_n C 6 0 rfl dX4_letterAt_5 rfl ?_
    refine s_get (C1 := RX4) (T := TX4) (N := 2) (ci := 3) C 9 0 1 uX4 rfl rfl (Nat.le_of_ble_eq_true rfl) uu124 rfl rfl rfl dX4_letterAt_6 ?_
    refine s_icmp_ge C 21 12 rfl dX4_letterAt_9 rfl (fun hc2 => ?_) (fun hc2 => ?_)
    · replace hf := ite_t hc2 hf
      refine s_iconst C 22 rfl dX4_letterAt_21 ic_m1 ?_
      obtain rfl := Option.some.inj hf
      exact s_iret C (fun i => i) hr hlk rfl rfl dX4_letterAt_22
    · replace hf := ite_f hc2 hf
      refine s_aload_n C 13 0 rfl dX4_letterAt_12 rfl ?_
      refine s_get (C1 := RX4) (T := TX4) (N := 2) (ci := 3) C 16 0 0 uX4 rfl rfl (Nat.le_of_ble_eq_true rfl) uu122 rfl rfl rfl dX4_letterAt_13 ?_
      refine s_iload_n C 17 1 rfl dX4_letterAt_16 rfl ?_
      obtain ⟨h1, hf⟩ := ck_in hf
      refine s_iald C 18 1 rfl h1 rfl dX4_letterAt_17 ?_
      refine s_goto C 22 dX4_letterAt_18 rfl ?_
      obtain rfl := Option.some.inj hf
      exact s_iret C (fun i => i) hr hlk rfl rfl dX4_letterAt_22


theorem hd_X4_digitAt : yX4_digitAt.cls = RX4 ∧ yX4_digitAt.cls ≠ "java/lang/invoke/MethodHandle" ∧ yX4_digitAt.cls ≠ "java/lang/invoke/VarHandle" ∧ (parseMethodDescriptor yX4_digitAt.desc).map (fun d => d.parameters.length) = some 1 := by decide +kernel
set_option maxHeartbeats 4000000 in
set_option maxRecDepth 100000 in
theorem c_X4_digitAt (l : Launch) (D : va_G) (cI : ClassId) (adK adV : Nat → Nat) (b0 : Nat) (b1 : Nat) (x_length : Int32) (x_letters : (Nat → Int32)) (a1 : Int32) (o : Int32) (hf : f_X4_digitAt x_length x_letters a1 = some o) : Ct l D cI adK adV yX4_digitAt (wy yX4_digitAt cX4_digitAt 2 (some .int)) { frames := 1, cells := 0, slots := 0, locals := 21 } 0 0 [.ref b0, .int a1] (wText b0 b1 cI x_length x_letters) (fun _ => (wText b0 b1 cI x_length x_letters)) (some (.int o)) := by
  refine Ct.of (cc := cX4_digitAt) (nL := 2) (ret := (some .int)) (own := RX4) (by decide) (Nat.le_of_ble_eq_true rfl) rfl ?_
  intro p e s m args below meth c A C hr hlk hnm
  refine s_lv (lv1 := [(0, .ref b0), (1, .int a1)]) [0, 1] rfl ?_
  unfold f_X4_digitAt at hf
  refine s_aload_n C 1 0 rfl dX4_digitAt_0 rfl ?_
  refine s_iload_n C 2 1 rfl dX4_digitAt_1 rfl ?_
  obtain ⟨r1, q2, hf⟩ := bn_s hf
  refine s_callW (T := TX4) (N := 2) (ci := 3) (q0 := 0) (rest := []) C 5 (c_X4_letterAt l D cI adK adV b0 b1 x_length x_letters a1 r1 q2) (gV uu203 uu205 uu1543 uu5 uu206) hd_X4_letterAt rfl ⟨rfl, rfl⟩ ⟨Nat.le_of_ble_eq_true rfl, Nat.le_of_ble_eq_true rfl⟩ ⟨Nat.le_of_ble_eq_true rfl, Nat.le_of_ble_eq_true rfl⟩ rfl rfl rfl (Nat.le_of_ble_eq_true rfl) rfl dX4_digitAt_2 (fun _ => ?_)
  refine s_bipush C 7 rfl dX4_digitAt_5 bp_48 ?_
  refine s_isub C 8 rfl dX4_digitAt_7 ?_
  obtain rfl := Option.some.inj hf
  exact s_iret C (fun i => i) hr hlk rfl rfl dX4_digitAt_8


theorem hd_X4_numberAt : yX4_numberAt.cls = RX4 ∧ yX4_numberAt.cls ≠ "java/lang/invoke/MethodHandle" ∧ yX4_numberAt.cls ≠ "java/lang/invoke/VarHandle" ∧ (parseMethodDescriptor yX4_numberAt.desc).map (fun d => d.parameters.length) = some 1 := by decide +kernel
set_option maxHeartbeats 4000000 in
set_option maxRecDepth 100000 in
theorem c_X4_numberAt (l : Launch) (D : va_G) (cI : ClassId) (adK adV : Nat → Nat) (b0 : Nat) (b1 : Nat) (x_length : Int32) (x_letters : (Nat → Int32)) (a1 : Int32) (o : Int32) (hf : f_X4_numberAt x_length x_letters a1 = some o) : Ct l D cI adK adV yX4_numberAt (wy yX4_numberAt cX4_numberAt 2 (some .int)) { frames := 2, cells := 0, slots := 0, locals := 42 } 0 0 [.ref b0, .int a1] (wText b0 b1 cI x_length x_letters) (fun _ => (wText b0 b1 cI x_length x_letters)) (some (.int o)) := by
  refine Ct.of (cc := cX4_numberAt) (nL := 2) (ret := (some .int)) (own := RX4) (by decide) (Nat.le_of_ble_eq_true rfl) rfl ?_
  intro p e s m args below meth c A C hr hlk hnm
  refine s_lv (lv1 := [(0, .ref b0), (1, .int a1)]) [0, 1] rfl ?_
  unfold f_X4_numberAt at hf
  refine s_bipush C 2 rfl dX4_numberAt_0 bp_10 ?_
  refine s_aload_n C 3 0 rfl dX4_numberAt_2 rfl ?_
  refine s_iload_n C 4 1 rfl dX4_numberAt_3 rfl ?_
  obtain ⟨r1, q2, hf⟩ := bn_s hf
  refine s_callW (T := TX4) (N := 2) (ci := 3) (q0 := 0) (rest := [.int (10 : Int32)]) C 7 (c_X4_digitAt l D cI adK adV b0 b1 x_length x_letters a1 r1 q2) (gV uu404 uu406 uu1545 uu5 uu407) hd_X4_digitAt rfl ⟨rfl, rfl⟩ ⟨Nat.le_of_ble_eq_true rfl, Nat.le_of_ble_eq_true rfl⟩ ⟨Nat.le_of_ble_eq_true rfl, Nat.le_of_ble_eq_true rfl⟩ rfl rfl rfl (Nat.le_of_ble_eq_true rfl) rfl dX4_numberAt_4 (fun _ => ?_)
  refine s_imul C 8 rfl dX4_numberAt_7 ?_
  refine s_aload_n C 9 0 rfl dX4_numberAt_8 rfl ?_
  refine s_iload_n C 10 1 rfl dX4_numberAt_9 rfl ?_
  refine s_iconst C 11 rfl dX4_numberAt_10 ic_1 ?_
  refine s_iadd C 12 rfl dX4_numberAt_11 ?_
  obtain ⟨r3, q4, hf⟩ := bn_s hf
  refine s_callW (T := TX4) (N := 2) (ci := 3) (q0 := 0) (rest := [.int ((10 : Int32) * r1)]) C 15 (c_X4_digitAt l D cI adK adV b0 b1 x_length x_letters (a1 + (1 : Int32)) r3 q4) (gV uu404 uu406 uu1545 uu5 uu407) hd_X4_digitAt rfl ⟨rfl, rfl⟩ ⟨Nat.le_of_ble_eq_true rfl, Nat.le_of_ble_eq_true rfl⟩ ⟨Nat.le_of_ble_eq_true rfl, Nat.le_of_ble_eq_true rfl⟩ rfl rfl rfl (Nat.le_of_ble_eq_true rfl) rfl dX4_numberAt_12 (fun _ => ?_)
  refine s_iadd C 16 rfl dX4_numberAt_15 ?_
  obtain rfl := Option.some.inj hf
  exact s_iret C (fun i => i) hr hlk rfl rfl dX4_numberAt_16

theorem sw_off_X4_formAt_5 {x : Int32} (h0 : ¬ x = (98 : Int32)) (h1 : ¬ x = (104 : Int32)) (h2 : ¬ x = (108 : Int32)) (h3 : ¬ x = (110 : Int32)) (h4 : ¬ x = (114 : Int32)) : Op.lookupswitch.offset ([(98, 54), (104, 51), (108, 57), (110, 63), (114, 60)] : List (Int × Int)) (66) x.toInt = 66 := by
  simp only [Op.lookupswitch.offset]
  rw [if_neg (fun q => ne_toInt h0 q.symm)]
  rw [if_neg (fun q => ne_toInt h1 q.symm)]
  rw [if_neg (fun q => ne_toInt h2 q.symm)]
  rw [if_neg (fun q => ne_toInt h3 q.symm)]
  rw [if_neg (fun q => ne_toInt h4 q.symm)]

theorem hd_X4_formAt : yX4_formAt.cls = RX4 ∧ yX4_formAt.cls ≠ "java/lang/invoke/MethodHandle" ∧ yX4_formAt.cls ≠ "java/lang/invoke/VarHandle" ∧ (parseMethodDescriptor yX4_formAt.desc).map (fun d => d.parameters.length) = some 1 := by decide +kernel
set_option maxHeartbeats 4000000 in
set_option maxRecDepth 100000 in
theorem c_X4_formAt (l : Launch) (D : va_G) (cI : ClassId) (adK adV : Nat → Nat) (b0 : Nat) (b1 : Nat) (x_length : Int32) (x_letters : (Nat → Int32)) (a1 : Int32) (o : Nat) (hf : f_X4_formAt x_length x_letters a1 = some o) : Ct l D cI adK adV yX4_formAt (wy yX4_formAt cX4_formAt 2 (some (.object "java/lang/String"))) { frames := 1, cells := 0, slots := 0, locals := 21 } 0 0 [.ref b0, .int a1] (wText b0 b1 cI x_length x_letters) (fun _ => (wText b0 b1 cI x_length x_letters)) (some (.ref (adK o))) := by
  refine Ct.of (cc := cX4_formAt) (nL := 2) (ret := (some (.object "java/lang/String"))) (own := RX4) (by decide) (Nat.le_of_ble_eq_true rfl) rfl ?_
  intro p e s m args below meth c A C hr hlk hnm
  refine s_lv (lv1 := [(0, .ref b0), (1, .int a1)]) [0, 1] rfl ?_
  unfold f_X4_formAt at hf
  refine s_aload_n C 1 0 rfl dX4_formAt_0 rfl ?_
  refine s_iload_n C 2 1 rfl dX4_formAt_1 rfl ?_
  obtain ⟨r1, q2, hf⟩ := bn_s hf
  refine s_callW (T := TX4) (N := 2) (ci := 3) (q0 := 0) (rest := []) C 5 (c_X4_letterAt l D cI adK adV b0 b1 x_length x_letters a1 r1 q2) (gV uu203 uu205 uu1543 uu5 uu206) hd_X4_letterAt rfl ⟨rfl, rfl⟩ ⟨Nat.le_of_ble_eq_true rfl, Nat.le_of_ble_eq_true rfl⟩ ⟨Nat.le_of_ble_eq_true rfl, Nat.le_of_ble_eq_true rfl⟩ rfl rfl rfl (Nat.le_of_ble_eq_true rfl) rfl dX4_formAt_2 (fun _ => ?_)
  by_cases hc3 : r1 = (98 : Int32)
  · replace hf := ite_t hc3 hf
    refine s_lookup (off := 54) C 59 dX4_formAt_5 rfl (by rw [hc3]; rfl) rfl ?_
    refine s_ldcS (i := 1) (tx := "") C 61 rfl dX4_formAt_59 rfl (Nat.le_of_ble_eq_true rfl) rfl ?_
    obtain rfl := Option.some.inj hf
    exact s_aret C (fun i => i) hr hlk rfl rfl dX4_formAt_61
  · replace hf := ite_f hc3 hf
    by_cases hc4 : r1 = (104 : Int32)
    · replace hf := ite_t hc4 hf
      refine s_lookup (off := 51) C 56 dX4_formAt_5 rfl (by rw [hc4]; rfl) rfl ?_
      refine s_ldcS (i := 0) (tx := "") C 58 rfl dX4_formAt_56 rfl (Nat.le_of_ble_eq_true rfl) rfl ?_
      obtain rfl := Option.some.inj hf
      exact s_aret C (fun i => i) hr hlk rfl rfl dX4_formAt_58
    · replace hf := ite_f hc4 hf
      by_cases hc5 : r1 = (108 : Int32)
      · replace hf := ite_t hc5 hf
        refine s_lookup (off := 57) C 62 dX4_formAt_5 rfl (by rw [hc5]; rfl) rfl ?_
        refine s_ldcS (i := 2) (tx := "") C 64 rfl dX4_formAt_62 rfl (Nat.le_of_ble_eq_true rfl) rfl ?_
        obtain rfl := Option.some.inj hf
        exact s_aret C (fun i => i) hr hlk rfl rfl dX4_formAt_64
      · replace hf := ite_f hc5 hf
        by_cases hc6 : r1 = (110 : Int32)
        · replace hf := ite_t hc6 hf
          refine s_lookup (off := 63) C 68 dX4_formAt_5 rfl (by rw [hc6]; rfl) rfl ?_
          refine s_ldcS (i := 4) (tx := "") C 70 rfl dX4_formAt_68 rfl (Nat.le_of_ble_eq_true rfl) rfl ?_
          obtain rfl := Option.some.inj hf
          exact s_aret C (fun i => i) hr hlk rfl rfl dX4_formAt_70
        · replace hf := ite_f hc6 hf
          by_cases hc7 : r1 = (114 : Int32)
          · replace hf := ite_t hc7 hf
            refine s_lookup (off := 60) C 65 dX4_formAt_5 rfl (by rw [hc7]; rfl) rfl ?_
            refine s_ldcS (i := 3) (tx := "") C 67 rfl dX4_formAt_65 rfl (Nat.le_of_ble_eq_true rfl) rfl ?_
            obtain rfl := Option.some.inj hf
            exact s_aret C (fun i => i) hr hlk rfl rfl dX4_formAt_67
          · replace hf := ite_f hc7 hf
            refine s_lookup C 71 dX4_formAt_5 rfl (sw_off_X4_formAt_5 hc3 hc4 hc5 hc6 hc7) rfl ?_
            refine s_ldcS (i := 5) (tx := "") C 73 rfl dX4_formAt_71 rfl (Nat.le_of_ble_eq_true rfl) rfl ?_
            obtain rfl := Option.some.inj hf
            exact s_aret C (fun i => i) hr hlk rfl rfl dX4_formAt_73


theorem hd_X4_suits : yX4_suits.cls ≠ "java/lang/invoke/MethodHandle" ∧ yX4_suits.cls ≠ "java/lang/invoke/VarHandle" ∧ (parseMethodDescriptor yX4_suits.desc).map (fun d => d.parameters.length) = some 3 := by decide +kernel
set_option maxHeartbeats 4000000 in
set_option maxRecDepth 100000 in
theorem c_X4_suits (l : Launch) (D : va_G) (cI : ClassId) (adK adV : Nat → Nat)   (a0 : Nat) (a1 : Int32) (a2 : Int32) (o : Int32) (hf : f_X4_suits a0 a1 a2 = some o) : Ct l D cI adK adV yX4_suits (wy yX4_suits cX4_suits 4 (some .boolean)) { frames := 4, cells := 0, slots := 0, locals := 91 } 0 0 [.ref (adK a0), .int a1, .int a2] [] (fun _ => []) (some (.int o)) := by
  refine Ct.of (cc := cX4_suits) (nL := 4) (ret := (some .boolean)) (own := RX4) (by decide) (Nat.le_of_ble_eq_true rfl) rfl ?_
  intro p e s m args below meth c A C hr hlk hnm
  refine s_lv (lv1 := [(0, .ref (adK a0)), (1, .int a1), (2, .int a2)]) [0, 1, 2] rfl ?_
  unfold f_X4_suits at hf
  obtain ⟨hsa0, hf⟩ := ck_ltJ hf
  refine s_iload_n C 1 1 rfl dX4_suits_0 rfl ?_
  refine s_if_lt C 12 4 rfl dX4_suits_1 rfl (fun hc14 => ?_) (fun hc14 => ?_)
  · replace hf := ite_t hc14 hf
    refine s_iconst C 13 rfl dX4_suits_12 ic_0 ?_
    obtain rfl := Option.some.inj hf
    exact s_zret C (fun i => i) hr hlk (Or.inl rfl) rfl rfl dX4_suits_13
  · replace hf := ite_f hc14 hf
    refine s_iload_n C 5 1 rfl dX4_suits_4 rfl ?_
    refine s_aload_n C 6 0 rfl dX4_suits_5 rfl ?_
    obtain ⟨r1, q2, hf⟩ := bn_s hf
    refine s_callT (rest := [.int a1]) C 9 hsa0 (c_J0_length_8abf5 l D cI adK adV a0 r1 q2) (gV uu213 uu215 uu216 uu7 uu217) hd_J0_length_8abf5 rfl ⟨rfl, rfl⟩ ⟨Nat.le_of_ble_eq_true rfl, Nat.le_of_ble_eq_true rfl⟩ ⟨Nat.le_of_ble_eq_true rfl, Nat.le_of_ble_eq_true rfl⟩ rfl (Nat.le_of_ble_eq_true rfl) rfl dX4_suits_6 ?_
    refine s_icmp_lt C 14 12 rfl dX4_suits_9 rfl (fun hc13 => ?_) (fun hc13 => ?_)
    · replace hf := ite_t hc13 hf
      refine s_aload_n C 15 0 rfl dX4_suits_14 rfl ?_
      refine s_iload_n C 16 1 rfl dX4_suits_15 rfl ?_
      obtain ⟨r3, q4, hf⟩ := bn_s hf
      refine s_callT (rest := []) C 19 hsa0 (c_J0_charAt_5068e l D cI adK adV a0 a1 r3 q4) (gV uu227 uu229 uu230 uu7 uu231) hd_J0_charAt_5068e rfl ⟨rfl, rfl⟩ ⟨Nat.le_of_ble_eq_true rfl, Nat.le_of_ble_eq_true rfl⟩ ⟨Nat.le_of_ble_eq_true rfl, Nat.le_of_ble_eq_true rfl⟩ rfl (Nat.le_of_ble_eq_true rfl) rfl dX4_suits_16 ?_
      refine s_istore_n (lv1 := [(3, .int r3), (0, .ref (adK a0)), (1, .int a1), (2, .int a2)]) C 20 3 rfl dX4_suits_19 rfl (Nat.le_of_ble_eq_true rfl) rfl ?_
      refine s_iload_n C 21 0 rfl dX4_suits_20 rfl ?_
      refine s_bipush C 23 rfl dX4_suits_21 bp_75 ?_
      refine s_icmp_ne C 42 26 rfl dX4_suits_23 rfl (fun hc12 => ?_) (fun hc12 => ?_)
      · replace hf := ite_f hc12 hf
        refine s_iload_n C 43 0 rfl dX4_suits_42 rfl ?_
        refine s_bipush C 45 rfl dX4_suits_43 bp_57 ?_
        refine s_icmp_ne C 66 48 rfl dX4_suits_45 rfl (fun hc8 => ?_) (fun hc8 => ?_)
        · replace hf := ite_f hc8 hf
          refine s_iload_n C 67 3 rfl dX4_suits_66 rfl ?_
          refine s_iload_n C 68 0 rfl dX4_suits_67 rfl ?_
          refine s_icmp_ne C 75 71 rfl dX4_suits_68 rfl (fun hc5 => ?_) (fun hc5 => ?_)
          · replace hf := ite_f hc5 hf
            refine s_iconst C 76 rfl dX4_suits_75 ic_0 ?_
            obtain rfl := Option.some.inj hf
            exact s_zret C (fun i => i) hr hlk (Or.inl rfl) rfl rfl dX4_suits_76
          · replace hf := ite_t hc5 hf
            refine s_iconst C 72 rfl dX4_suits_71 ic_1 ?_
            refine s_goto C 76 dX4_suits_72 rfl ?_
            obtain rfl := Option.some.inj hf
            exact s_zret C (fun i => i) hr hlk (Or.inr rfl) rfl rfl dX4_suits_76
        · replace hf := ite_t hc8 hf
          refine s_iload_n C 49 3 rfl dX4_suits_48 rfl ?_
          refine s_bipush C 51 rfl dX4_suits_49 bp_48 ?_
          refine s_icmp_lt C 64 54 rfl dX4_suits_51 rfl (fun hc7 => ?_) (fun hc7 => ?_)
          · replace hf := ite_t hc7 hf
            refine s_iconst C 65 rfl dX4_suits_64 ic_0 ?_
            obtain rfl := Option.some.inj hf
            exact s_zret C (fun i => i) hr hlk (Or.inl rfl) rfl rfl dX4_suits_65
          · replace hf := ite_f hc7 hf
            refine s_iload_n C 55 3 rfl dX4_suits_54 rfl ?_
            refine s_bipush C 57 rfl dX4_suits_55 bp_57 ?_
            refine s_icmp_gt C 64 60 rfl dX4_suits_57 rfl (fun hc6 => ?_) (fun hc6 => ?_)
            · replace hf := ite_t hc6 hf
              refine s_iconst C 65 rfl dX4_suits_64 ic_0 ?_
              obtain rfl := Option.some.inj hf
              exact s_zret C (fun i => i) hr hlk (Or.inl rfl) rfl rfl dX4_suits_65
            · replace hf := ite_f hc6 hf
              refine s_iconst C 61 rfl dX4_suits_60 ic_1 ?_
              refine s_goto C 65 dX4_suits_61 rfl ?_
              obtain rfl := Option.some.inj hf
              exact s_zret C (fun i => i) hr hlk (Or.inr rfl) rfl rfl dX4_suits_65
      · replace hf := ite_t hc12 hf
        refine s_ldcS (i := 6) (tx := "") C 28 rfl dX4_suits_26 rfl (Nat.le_of_ble_eq_true rfl) rfl ?_
        refine s_iload_n C 29 3 rfl dX4_suits_28 rfl ?_
        refine s_i2c C 30 rfl dX4_suits_29 ?_
        obtain ⟨r9, q10, hf⟩ := bn_s hf
        refine s_callT (rest := []) C 33 (by decide) (c_J0_indexOf_0f7a4 l D cI adK adV 6 ((a2.toUInt32 % 65536).toInt32) r9 q10) (gV uu284 uu286 uu287 uu7 uu288) hd_J0_indexOf_0f7a4 rfl ⟨rfl, rfl⟩ ⟨Nat.le_of_ble_eq_true rfl, Nat.le_of_ble_eq_true rfl⟩ ⟨Nat.le_of_ble_eq_true rfl, Nat.le_of_ble_eq_true rfl⟩ rfl (Nat.le_of_ble_eq_true rfl) rfl dX4_suits_30 ?_
        refine s_if_lt C 40 36 rfl dX4_suits_33 rfl (fun hc11 => ?_) (fun hc11 => ?_)
        · replace hf := ite_t hc11 hf
          refine s_iconst C 41 rfl dX4_suits_40 ic_0 ?_
          obtain rfl := Option.some.inj hf
          exact s_zret C (fun i => i) hr hlk (Or.inl rfl) rfl rfl dX4_suits_41
        · replace hf := ite_f hc11 hf
          refine s_iconst C 37 rfl dX4_suits_36 ic_1 ?_
          refine s_goto C 41 dX4_suits_37 rfl ?_
          obtain rfl := Option.some.inj hf
          exact s_zret C (fun i => i) hr hlk (Or.inr rfl) rfl rfl dX4_suits_41
    · replace hf := ite_f hc13 hf
      refine s_iconst C 13 rfl dX4_suits_12 ic_0 ?_
      obtain rfl := Option.some.inj hf
      exact s_zret C (fun i => i) hr hlk (Or.inl rfl) rfl rfl dX4_suits_13


theorem hd_X4_kindAt : yX4_kindAt.cls = RX4 ∧ yX4_kindAt.cls ≠ "java/lang/invoke/MethodHandle" ∧ yX4_kindAt.cls ≠ "java/lang/invoke/VarHandle" ∧ (parseMethodDescriptor yX4_kindAt.desc).map (fun d => d.parameters.length) = some 1 := by decide +kernel
set_option maxHeartbeats 4000000 in
set_option maxRecDepth 100000 in
theorem c_X4_kindAt (l : Launch) (D : va_G) (cI : ClassId) (adK adV : Nat → Nat) (b0 : Nat) (b1 : Nat) (x_length : Int32) (x_letters : (Nat → Int32)) (a1 : Int32) (o : Int32) (hf : f_X4_kindAt x_length x_letters a1 = some o) : Ct l D cI adK adV yX4_kindAt (wy yX4_kindAt cX4_kindAt 2 (some .int)) { frames := 4, cells := 0, slots := 0, locals := 91 } 0 0 [.ref b0, .int a1] (wText b0 b1 cI x_length x_letters) (fun _ => (wText b0 b1 cI x_length x_letters)) (some (.int o)) := by
  refine Ct.of (cc := cX4_kindAt) (nL := 2) (ret := (some .int)) (own := RX4) (by decide) (Nat.le_of_ble_eq_true rfl) rfl ?_
  intro p e s m args below meth c A C hr hlk hnm
  refine s_lv (lv1 := [(0, .ref b0), (1, .int a1)]) [0, 1] rfl ?_
  unfold f_X4_kindAt at hf
  refine s_ldcS (i := 6) (tx := "") C 2 rfl dX4_kindAt_0 rfl (Nat.le_of_ble_eq_true rfl) rfl ?_
  refine s_aload_n C 3 0 rfl dX4_kindAt_2 rfl ?_
  refine s_iload_n C 4 1 rfl dX4_kindAt_3 rfl ?_
  obtain ⟨r1, q2, hf⟩ := bn_s hf
  refine s_callW (T := TX4) (N := 2) (ci := 3) (q0 := 0) (rest := [.ref (adK 6)]) C 7 (c_X4_letterAt l D cI adK adV b0 b1 x_length x_letters a1 r1 q2) (gV uu203 uu205 uu1543 uu5 uu206) hd_X4_letterAt rfl ⟨rfl, rfl⟩ ⟨Nat.le_of_ble_eq_true rfl, Nat.le_of_ble_eq_true rfl⟩ ⟨Nat.le_of_ble_eq_true rfl, Nat.le_of_ble_eq_true rfl⟩ rfl rfl rfl (Nat.le_of_ble_eq_true rfl) rfl dX4_kindAt_4 (fun _ => ?_)
  refine s_i2c C 8 rfl dX4_kindAt_7 ?_
  obtain ⟨r3, q4, hf⟩ := bn_s hf
  refine s_callT (rest := []) C 11 (by decide) (c_J0_indexOf_0f7a4 l D cI adK adV 6 ((r1.toUInt32 % 65536).toInt32) r3 q4) (gV uu284 uu286 uu287 uu7 uu288) hd_J0_indexOf_0f7a4 rfl ⟨rfl, rfl⟩ ⟨Nat.le_of_ble_eq_true rfl, Nat.le_of_ble_eq_true rfl⟩ ⟨Nat.le_of_ble_eq_true rfl, Nat.le_of_ble_eq_true rfl⟩ rfl (Nat.le_of_ble_eq_true rfl) rfl dX4_kindAt_8 ?_
  obtain rfl := Option.some.inj hf
  exact s_iret C (fun i => i) hr hlk rfl rfl dX4_kindAt_11


theorem hd_X4_misfit : yX4_misfit.cls = RX4 ∧ yX4_misfit.cls ≠ "java/lang/invoke/MethodHandle" ∧ yX4_misfit.cls ≠ "java/lang/invoke/VarHandle" ∧ (parseMethodDescriptor yX4_misfit.desc).map (fun d => d.parameters.length) = some 0 := by decide +kernel
set_option maxHeartbeats 4000000 in
set_option maxRecDepth 100000 in
theorem c_X4_misfit (l : Launch) (D : va_G) (cI : ClassId) (adK adV : Nat → Nat) (b0 : Nat) (b1 : Nat) (x_length : Int32) (x_letters : (Nat → Int32))  (o : Int32) (hf : f_X4_misfit x_length x_letters = some o) : Ct l D cI adK adV yX4_misfit (wy yX4_misfit cX4_misfit 4 (some .int)) { frames := 5, cells := 0, slots := 0, locals := 114 } 0 0 [.ref b0] (wText b0 b1 cI x_length x_letters) (fun _ => (wText b0 b1 cI x_length x_letters)) (some (.int o)) := by
  refine Ct.of (cc := cX4_misfit) (nL := 4) (ret := (some .int)) (own := RX4) (by decide) (Nat.le_of_ble_eq_true rfl) rfl ?_
  intro p e s m args below meth c A C hr hlk hnm
  refine s_lv (lv1 := [(0, .ref b0)]) [0] rfl ?_
  unfold f_X4_misfit at hf
  refine s_iconst C 1 rfl dX4_misfit_0 ic_0 ?_
  refine s_istore_n (lv1 := [(1, .int (0 : Int32)), (0, .ref b0)]) C 2 1 rfl dX4_misfit_1 rfl (Nat.le_of_ble_eq_true rfl) rfl ?_
  refine s_iconst C 3 rfl dX4_misfit_2 ic_0 ?_
  refine s_istore_n (lv1 := [(2, .int (0 : Int32)), (1, .int (0 : Int32)), (0, .ref b0)]) C 4 2 rfl dX4_misfit_3 rfl (Nat.le_of_ble_eq_true rfl) rfl ?_
  refine s_lv (lv1 := [(0, .ref b0), (1, .int (0 : Int32)), (2, .int (0 : Int32))]) [2, 1, 0] rfl ?_
  refine s_kont (γ := Int32) (o := o) (fun KQ => f_X4_misfit_4 x_length x_letters KQ 1000 (0 : Int32) (0 : Int32) = some o) 58 (fun e14 => [(0, .ref b0), (1, .int e14)]) (fun e14 => []) (fun e14 => (wText b0 b1 cI x_length x_letters)) hf (fun e14 hf => ?_) (fun k13 hk13 hf => ?_)
  · refine s_aload_n C 59 0 rfl dX4_misfit_58 rfl ?_
    refine s_get (C1 := RX4) (T := TX4) (N := 2) (ci := 3) C 62 0 1 uX4 rfl rfl (Nat.le_of_ble_eq_true rfl) uu124 rfl rfl rfl dX4_misfit_59 ?_
    refine s_if_le C 77 65 rfl dX4_misfit_62 rfl (fun hc16 => ?_) (fun hc16 => ?_)
    · replace hf := ite_t hc16 hf
      refine s_aload_n C 78 0 rfl dX4_misfit_77 rfl ?_
      refine s_get (C1 := RX4) (T := TX4) (N := 2) (ci := 3) C 81 0 1 uX4 rfl rfl (Nat.le_of_ble_eq_true rfl) uu124 rfl rfl rfl dX4_misfit_78 ?_
      obtain rfl := Option.some.inj hf
      exact s_iret C (fun i => i) hr hlk rfl rfl dX4_misfit_81
    · replace hf := ite_f hc16 hf
      refine s_iload_n C 66 1 rfl dX4_misfit_65 rfl ?_
      refine s_aload_n C 67 0 rfl dX4_misfit_66 rfl ?_
      refine s_get (C1 := RX4) (T := TX4) (N := 2) (ci := 3) C 70 0 1 uX4 rfl rfl (Nat.le_of_ble_eq_true rfl) uu124 rfl rfl rfl dX4_misfit_67 ?_
      refine s_icmp_ne C 77 73 rfl dX4_misfit_70 rfl (fun hc15 => ?_) (fun hc15 => ?_)
      · replace hf := ite_f hc15 hf
        refine s_aload_n C 78 0 rfl dX4_misfit_77 rfl ?_
        refine s_get (C1 := RX4) (T := TX4) (N := 2) (ci := 3) C 81 0 1 uX4 rfl rfl (Nat.le_of_ble_eq_true rfl) uu124 rfl rfl rfl dX4_misfit_78 ?_
        obtain rfl := Option.some.inj hf
        exact s_iret C (fun i => i) hr hlk rfl rfl dX4_misfit_81
      · replace hf := ite_t hc15 hf
        refine s_iconst C 74 rfl dX4_misfit_73 ic_m1 ?_
        refine s_goto C 81 dX4_misfit_74 rfl ?_
        obtain rfl := Option.some.inj hf
        exact s_iret C (fun i => i) hr hlk rfl rfl dX4_misfit_81
  · skip
    refine s_loop (α := Int32 × Int32) (fun n v17 => f_X4_misfit_4 x_length x_letters k13 n v17.1 v17.2) 4 (fun v17 => [(0, .ref b0), (1, .int v17.1), (2, .int v17.2)]) (fun v17 => (wText b0 b1 cI x_length x_letters)) 1000 ((0 : Int32), (0 : Int32)) hf (fun v17 hf => by simp only [f_X4_misfit_4] at hf; exact absurd hf (by simp)) (fun n ih18 v17 hf => ?_)
    replace hf := (f_X4_misfit_4_s _ _ _ _ _ _).symm.trans hf
    refine s_iload_n C 5 2 rfl dX4_misfit_4 rfl ?_
    refine s_aload_n C 6 0 rfl dX4_misfit_5 rfl ?_
    refine s_get (C1 := RX4) (T := TX4) (N := 2) (ci := 3) C 9 0 1 uX4 rfl rfl (Nat.le_of_ble_eq_true rfl) uu124 rfl rfl rfl dX4_misfit_6 ?_
    refine s_icmp_ge C 58 12 rfl dX4_misfit_9 rfl (fun hc30 => ?_) (fun hc30 => ?_)
    · replace hf := ite_t hc30 hf
      exact s_lv [0, 1] rfl (hk13 (v17.1 : Int32) hf)
    · replace hf := ite_f hc30 hf
      refine s_aload_n C 13 0 rfl dX4_misfit_12 rfl ?_
      refine s_iload_n C 14 1 rfl dX4_misfit_13 rfl ?_
      obtain ⟨r19, q20, hf⟩ := bn_s hf
      refine s_callW (T := TX4) (N := 2) (ci := 3) (q0 := 0) (rest := []) C 17 (c_X4_formAt l D cI adK adV b0 b1 x_length x_letters v17.1 r19 q20) (gV uu197 uu199 uu200 uu5 uu201) hd_X4_formAt rfl ⟨rfl, rfl⟩ ⟨Nat.le_of_ble_eq_true rfl, Nat.le_of_ble_eq_true rfl⟩ ⟨Nat.le_of_ble_eq_true rfl, Nat.le_of_ble_eq_true rfl⟩ rfl rfl rfl (Nat.le_of_ble_eq_true rfl) rfl dX4_misfit_14 (fun _ => ?_)
      refine s_astore_n (lv1 := [(3, .ref (adK r19)), (0, .ref b0), (1, .int v17.1), (2, .int v17.2)]) C 18 3 rfl dX4_misfit_17 rfl (Nat.le_of_ble_eq_true rfl) rfl ?_
      refine s_aload_n C 19 0 rfl dX4_misfit_18 rfl ?_
      refine s_iload_n C 20 3 rfl dX4_misfit_19 rfl ?_
      refine s_iload_n C 21 2 rfl dX4_misfit_20 rfl ?_
      refine s_isub C 22 rfl dX4_misfit_21 ?_
      refine s_aload_n C 23 1 rfl dX4_misfit_22 rfl ?_
      refine s_get (C1 := RX4) (T := TX4) (N := 2) (ci := 3) C 26 0 0 uX4 rfl rfl (Nat.le_of_ble_eq_true rfl) uu122 rfl rfl rfl dX4_misfit_23 ?_
      refine s_iload_n C 27 3 rfl dX4_misfit_26 rfl ?_
      obtain ⟨h21, hf⟩ := ck_in hf
      refine s_iald C 28 1 rfl h21 rfl dX4_misfit_27 ?_
      obtain ⟨r22, q23, hf⟩ := bn_s hf
      refine s_callS0 (host := "") (rest := []) C 31 (c_X4_suits l D cI adK adV r19 (v17.2 - v17.1) (x_letters v17.2.toNatClampNeg) r22 q23) (gS uu208 uu210 uu5 uu211) hd_X4_suits rfl ⟨rfl, rfl⟩ ⟨Nat.le_of_ble_eq_true rfl, Nat.le_of_ble_eq_true rfl⟩ ⟨Nat.le_of_ble_eq_true rfl, Nat.le_of_ble_eq_true rfl⟩ rfl (Nat.le_of_ble_eq_true rfl) rfl dX4_misfit_28 ?_
      refine s_if_ne C 36 34 rfl dX4_misfit_31 rfl (fun hc29 => ?_) (fun hc29 => ?_)
      · replace hf := ite_f hc29 hf
        refine s_iload_n C 37 3 rfl dX4_misfit_36 rfl ?_
        refine s_iload_n C 38 2 rfl dX4_misfit_37 rfl ?_
        refine s_isub C 39 rfl dX4_misfit_38 ?_
        refine s_aload_n C 40 0 rfl dX4_misfit_39 rfl ?_
        obtain ⟨h26, hf⟩ := ck_ltJ hf
        obtain ⟨r24, q25, hf⟩ := bn_s hf
        refine s_callT (rest := [.int (v17.2 - v17.1)]) C 43 h26 (c_J0_length_8abf5 l D cI adK adV r19 r24 q25) (gV uu213 uu215 uu216 uu7 uu217) hd_J0_length_8abf5 rfl ⟨rfl, rfl⟩ ⟨Nat.le_of_ble_eq_true rfl, Nat.le_of_ble_eq_true rfl⟩ ⟨Nat.le_of_ble_eq_true rfl, Nat.le_of_ble_eq_true rfl⟩ rfl (Nat.le_of_ble_eq_true rfl) rfl dX4_misfit_40 ?_
        refine s_iconst C 44 rfl dX4_misfit_43 ic_1 ?_
        refine s_isub C 45 rfl dX4_misfit_44 ?_
        refine s_jn (α := Int32) 52 (fun j27 => [(0, .ref b0), (1, .int j27), (2, .int v17.2)]) (fun j27 => []) (fun j27 => (wText b0 b1 cI x_length x_letters)) hf (fun j27 hf => ?_) (fun hj hf => ?_)
        · refine s_iinc (lv1 := [(2, .int (v17.2 + (1 : Int32))), (0, .ref b0), (1, .int j27)]) C 55 2 2 rfl dX4_misfit_52 rfl ic_1 (Nat.le_of_ble_eq_true rfl) rfl ?_
          refine s_goto C 4 dX4_misfit_55 rfl ?_
          exact s_lv [1, 2, 0] rfl (ih18 ((j27, v17.2 + (1 : Int32)) : Int32 × Int32) hf)
        · refine s_icmp_ne C 52 48 rfl dX4_misfit_45 rfl (fun hc28 => ?_) (fun hc28 => ?_)
          · replace hf := jn_f hc28 hf
            replace hf := jn_i hf
            exact s_lv [1, 2, 3] rfl (hj (v17.1 : Int32) hf)
          · replace hf := jn_t hc28 hf
            refine s_iload_n C 49 3 rfl dX4_misfit_48 rfl ?_
            refine s_iconst C 50 rfl dX4_misfit_49 ic_1 ?_
            refine s_iadd C 51 rfl dX4_misfit_50 ?_
            refine s_istore_n (lv1 := [(1, .int (v17.2 + (1 : Int32))), (3, .ref (adK r19)), (0, .ref b0), (2, .int v17.2)]) C 52 1 rfl dX4_misfit_51 rfl (Nat.le_of_ble_eq_true rfl) rfl ?_
            replace hf := jn_i hf
            exact s_lv [2, 0, 3] rfl (hj (v17.2 + (1 : Int32) : Int32) hf)
      · replace hf := ite_t hc29 hf
        refine s_iload_n C 35 3 rfl dX4_misfit_34 rfl ?_
        obtain rfl := Option.some.inj hf
        exact s_iret C (fun i => i) hr hlk rfl rfl dX4_misfit_35

theorem sw_off_X4_doesStatement_5 {x : Int32} (h0 : ¬ x = (98 : Int32)) (h1 : ¬ x = (104 : Int32)) (h2 : ¬ x = (108 : Int32)) (h3 : ¬ x = (110 : Int32)) (h4 : ¬ x = (114 : Int32)) : Op.lookupswitch.offset ([(98, 70), (104, 51), (108, 89), (110, 113), (114, 101)] : List (Int × Int)) (118) x.toInt = 118 := by
  simp only [Op.lookupswitch.offset]
  rw [if_neg (fun q => ne_toInt h0 q.symm)]
  rw [if_neg (fun q => ne_toInt h1 q.symm)]
  rw [if_neg (fun q => ne_toInt h2 q.symm)]
  rw [if_neg (fun q => ne_toInt h3 q.symm)]
  rw [if_neg (fun q => ne_toInt h4 q.symm)]

theorem hd_X4_doesStatement : yX4_doesStatement.cls = RX4 ∧ yX4_doesStatement.cls ≠ "java/lang/invoke/MethodHandle" ∧ yX4_doesStatement.cls ≠ "java/lang/invoke/VarHandle" ∧ (parseMethodDescriptor yX4_doesStatement.desc).map (fun d => d.parameters.length) = some 2 := by decide +kernel
set_option maxHeartbeats 4000000 in
set_option maxRecDepth 100000 in
theorem c_X4_doesStatement (l : Launch) (D : va_G) (cI : ClassId) (adK adV : Nat → Nat) (b0 : Nat) (b1 : Nat) (b2 : Nat) (b3 : Nat) (b4 : Nat) (x_length : Int32) (x_letters : (Nat → Int32)) (o_heirs : Int32) (o_left : Int32) (o_bitten : Int32) (o_kinds : (Nat → Int32)) (o_figures : (Nat → Int32)) (a1 : Int32) (o : Int32 × Int32 × Int32 × Int32 × (Nat → Int32) × (Nat → Int32)) (hf : f_X4_doesStatement x_length x_letters o_heirs o_left o_bitten o_kinds o_figures a1 = some o) : Ct l D cI adK adV yX4_doesStatement (wy yX4_doesStatement cX4_doesStatement 3 (some .boolean)) { frames := 5, cells := 0, slots := 0, locals := 112 } 0 0 [.ref b0, .int a1, .ref b2] (wTextCore b0 b1 b2 b3 b4 cI x_length x_letters o_heirs o_left o_bitten o_kinds o_figures) (fun _ => (wTextCore b0 b1 b2 b3 b4 cI x_length x_letters o.2.1 o.2.2.1 o.2.2.2.1 o.2.2.2.2.1 o.2.2.2.2.2)) (some (.int o.1)) := by
  refine Ct.of (cc := cX4_doesStatement) (nL := 3) (ret := (some .boolean)) (own := RX4) (by decide) (Nat.le_of_ble_eq_true rfl) rfl ?_
  intro p e s m args below meth c A C hr hlk hnm
  refine s_lv (lv1 := [(0, .ref b0), (1, .int a1), (2, .ref b2)]) [0, 1, 2] rfl ?_
  unfold f_X4_doesStatement at hf
  refine s_aload_n C 1 0 rfl dX4_doesStatement_0 rfl ?_
  refine s_iload_n C 2 1 rfl dX4_doesStatement_1 rfl ?_
  obtain ⟨r1, q2, hf⟩ := bn_s hf
  refine s_callV (T := TX4) (N := 2) (ci := 3) (q0 := 0) (rest := []) (wr := [(b2, .inr (0, [.ref b3, .ref b4, .int o_heirs, .int o_left, .int o_bitten])), (b3, .inl (cI, 5, .inl o_kinds)), (b4, .inl (cI, 5, .inl o_figures))]) (ws2 := fun _ => (wTextCore b0 b1 b2 b3 b4 cI x_length x_letters o_heirs o_left o_bitten o_kinds o_figures)) C 5 (c_X4_letterAt l D cI adK adV b0 b1 x_length x_letters a1 r1 q2) (gV uu203 uu205 uu1543 uu5 uu206) hd_X4_letterAt rfl ⟨rfl, rfl⟩ ⟨Nat.le_of_ble_eq_true rfl, Nat.le_of_ble_eq_true rfl⟩ ⟨Nat.le_of_ble_eq_true rfl, Nat.le_of_ble_eq_true rfl⟩ rfl rfl rfl (Nat.le_of_ble_eq_true rfl) [0, 1] [2, 3, 4] [3, 4, 0, 1, 2] rfl rfl rfl rfl (by decide) rfl (fun _ => rfl) (fun _ => rfl) rfl dX4_doesStatement_2 (fun _ => ?_)
  by_cases hc10 : r1 = (98 : Int32)
  · replace hf := ite_t hc10 hf
    refine s_lookup (off := 70) C 75 dX4_doesStatement_5 rfl (by rw [hc10]; rfl) rfl ?_
    refine s_aload_n C 76 2 rfl dX4_doesStatement_75 rfl ?_
    refine s_aload_n C 77 0 rfl dX4_doesStatement_76 rfl ?_
    refine s_iload_n C 78 1 rfl dX4_doesStatement_77 rfl ?_
    refine s_iconst C 79 rfl dX4_doesStatement_78 ic_1 ?_
    refine s_iadd C 80 rfl dX4_doesStatement_79 ?_
    obtain ⟨r3, q4, hf⟩ := bn_s hf
    refine s_callV (T := TX4) (N := 2) (ci := 3) (q0 := 0) (rest := [.ref b2]) (wr := [(b2, .inr (0, [.ref b3, .ref b4, .int o_heirs, .int o_left, .int o_bitten])), (b3, .inl (cI, 5, .inl o_kinds)), (b4, .inl (cI, 5, .inl o_figures))]) (ws2 := fun _ => (wTextCore b0 b1 b2 b3 b4 cI x_length x_letters o_heirs o_left o_bitten o_kinds o_figures)) C 83 (c_X4_digitAt l D cI adK adV b0 b1 x_length x_letters (a1 + (1 : Int32)) r3 q4) (gV uu404 uu406 uu1545 uu5 uu407) hd_X4_digitAt rfl ⟨rfl, rfl⟩ ⟨Nat.le_of_ble_eq_true rfl, Nat.le_of_ble_eq_true rfl⟩ ⟨Nat.le_of_ble_eq_true rfl, Nat.le_of_ble_eq_true rfl⟩ rfl rfl rfl (Nat.le_of_ble_eq_true rfl) [0, 1] [2, 3, 4] [3, 4, 0, 1, 2] rfl rfl rfl rfl (by decide) rfl (fun _ => rfl) (fun _ => rfl) rfl dX4_doesStatement_80 (fun _ => ?_)
    refine s_aload_n C 84 0 rfl dX4_doesStatement_83 rfl ?_
    refine s_iload_n C 85 1 rfl dX4_doesStatement_84 rfl ?_
    refine s_iconst C 86 rfl dX4_doesStatement_85 ic_2 ?_
    refine s_iadd C 87 rfl dX4_doesStatement_86 ?_
    obtain ⟨r5, q6, hf⟩ := bn_s hf
    refine s_callV (T := TX4) (N := 2) (ci := 3) (q0 := 0) (rest := [.int r3, .ref b2]) (wr := [(b2, .inr (0, [.ref b3, .ref b4, .int o_heirs, .int o_left, .int o_bitten])), (b3, .inl (cI, 5, .inl o_kinds)), (b4, .inl (cI, 5, .inl o_figures))]) (ws2 := fun _ => (wTextCore b0 b1 b2 b3 b4 cI x_length x_letters o_heirs o_left o_bitten o_kinds o_figures)) C 90 (c_X4_numberAt l D cI adK adV b0 b1 x_length x_letters (a1 + (2 : Int32)) r5 q6) (gV uu415 uu417 uu1546 uu5 uu418) hd_X4_numberAt rfl ⟨rfl, rfl⟩ ⟨Nat.le_of_ble_eq_true rfl, Nat.le_of_ble_eq_true rfl⟩ ⟨Nat.le_of_ble_eq_true rfl, Nat.le_of_ble_eq_true rfl⟩ rfl rfl rfl (Nat.le_of_ble_eq_true rfl) [0, 1] [2, 3, 4] [3, 4, 0, 1, 2] rfl rfl rfl rfl (by decide) rfl (fun _ => rfl) (fun _ => rfl) rfl dX4_doesStatement_87 (fun _ => ?_)
    obtain ⟨r7, q8, hf⟩ := bn_s hf
    refine s_callV (T := TX0) (N := 5) (ci := 0) (q0 := 2) (rest := []) (wr := [(b0, .inr (3, [.ref b1, .int x_length])), (b1, .inl (cI, 96, .inl x_letters))]) (ws2 := fun _ => (wTextCore b0 b1 b2 b3 b4 cI x_length x_letters o_heirs r7.2.1 r7.2.2 o_kinds o_figures)) C 93 (c_X0_takesBite l D cI adK adV b2 b3 b4 o_heirs o_left o_bitten o_kinds o_figures r3 r5 r7 q8) (gV uu420 uu422 uu423 uu2 uu424) hd_X0_takesBite rfl ⟨rfl, rfl⟩ ⟨Nat.le_of_ble_eq_true rfl, Nat.le_of_ble_eq_true rfl⟩ ⟨Nat.le_of_ble_eq_true rfl, Nat.le_of_ble_eq_true rfl⟩ rfl rfl rfl (Nat.le_of_ble_eq_true rfl) [2, 3, 4] [0, 1] [0, 1, 2, 3, 4] rfl rfl rfl rfl (by decide) rfl (fun _ => rfl) (fun _ => rfl) rfl dX4_doesStatement_90 (fun _ => ?_)
    obtain ⟨h9, hf⟩ := ck_isb hf
    obtain rfl := Option.some.inj hf
    exact s_zret C (fun i => i) hr hlk h9 rfl rfl dX4_doesStatement_93
  · replace hf := ite_f hc10 hf
    by_cases hc18 : r1 = (104 : Int32)
    · replace hf := ite_t hc18 hf
      refine s_lookup (off := 51) C 56 dX4_doesStatement_5 rfl (by rw [hc18]; rfl) rfl ?_
      refine s_aload_n C 57 2 rfl dX4_doesStatement_56 rfl ?_
      refine s_aload_n C 58 0 rfl dX4_doesStatement_57 rfl ?_
      refine s_iload_n C 59 1 rfl dX4_doesStatement_58 rfl ?_
      refine s_iconst C 60 rfl dX4_doesStatement_59 ic_1 ?_
      refine s_iadd C 61 rfl dX4_doesStatement_60 ?_
      obtain ⟨r11, q12, hf⟩ := bn_s hf
      refine s_callV (T := TX4) (N := 2) (ci := 3) (q0 := 0) (rest := [.ref b2]) (wr := [(b2, .inr (0, [.ref b3, .ref b4, .int o_heirs, .int o_left, .int o_bitten])), (b3, .inl (cI, 5, .inl o_kinds)), (b4, .inl (cI, 5, .inl o_figures))]) (ws2 := fun _ => (wTextCore b0 b1 b2 b3 b4 cI x_length x_letters o_heirs o_left o_bitten o_kinds o_figures)) C 64 (c_X4_kindAt l D cI adK adV b0 b1 x_length x_letters (a1 + (1 : Int32)) r11 q12) (gV uu399 uu401 uu1544 uu5 uu402) hd_X4_kindAt rfl ⟨rfl, rfl⟩ ⟨Nat.le_of_ble_eq_true rfl, Nat.le_of_ble_eq_true rfl⟩ ⟨Nat.le_of_ble_eq_true rfl, Nat.le_of_ble_eq_true rfl⟩ rfl rfl rfl (Nat.le_of_ble_eq_true rfl) [0, 1] [2, 3, 4] [3, 4, 0, 1, 2] rfl rfl rfl rfl (by decide) rfl (fun _ => rfl) (fun _ => rfl) rfl dX4_doesStatement_61 (fun _ => ?_)
      refine s_aload_n C 65 0 rfl dX4_doesStatement_64 rfl ?_
      refine s_iload_n C 66 1 rfl dX4_doesStatement_65 rfl ?_
      refine s_iconst C 67 rfl dX4_doesStatement_66 ic_2 ?_
      refine s_iadd C 68 rfl dX4_doesStatement_67 ?_
      obtain ⟨r13, q14, hf⟩ := bn_s hf
      refine s_callV (T := TX4) (N := 2) (ci := 3) (q0 := 0) (rest := [.int r11, .ref b2]) (wr := [(b2, .inr (0, [.ref b3, .ref b4, .int o_heirs, .int o_left, .int o_bitten])), (b3, .inl (cI, 5, .inl o_kinds)), (b4, .inl (cI, 5, .inl o_figures))]) (ws2 := fun _ => (wTextCore b0 b1 b2 b3 b4 cI x_length x_letters o_heirs o_left o_bitten o_kinds o_figures)) C 71 (c_X4_digitAt l D cI adK adV b0 b1 x_length x_letters (a1 + (2 : Int32)) r13 q14) (gV uu404 uu406 uu1545 uu5 uu407) hd_X4_digitAt rfl ⟨rfl, rfl⟩ ⟨Nat.le_of_ble_eq_true rfl, Nat.le_of_ble_eq_true rfl⟩ ⟨Nat.le_of_ble_eq_true rfl, Nat.le_of_ble_eq_true rfl⟩ rfl rfl rfl (Nat.le_of_ble_eq_true rfl) [0, 1] [2, 3, 4] [3, 4, 0, 1, 2] rfl rfl rfl rfl (by decide) rfl (fun _ => rfl) (fun _ => rfl) rfl dX4_doesStatement_68 (fun _ => ?_)
      obtain ⟨r15, q16, hf⟩ := bn_s hf
      refine s_callV (T := TX0) (N := 5) (ci := 0) (q0 := 2) (rest := []) (wr := [(b0, .inr (3, [.ref b1, .int x_length])), (b1, .inl (cI, 96, .inl x_letters))]) (ws2 := fun _ => (wTextCore b0 b1 b2 b3 b4 cI x_length x_letters r15.2.1 o_left o_bitten r15.2.2.1 r15.2.2.2)) C 74 (c_X0_takesHeir l D cI adK adV b2 b3 b4 o_heirs o_left o_bitten o_kinds o_figures r11 r13 r15 q16) (gV uu409 uu411 uu412 uu2 uu413) hd_X0_takesHeir rfl ⟨rfl, rfl⟩ ⟨Nat.le_of_ble_eq_true rfl, Nat.le_of_ble_eq_true rfl⟩ ⟨Nat.le_of_ble_eq_true rfl, Nat.le_of_ble_eq_true rfl⟩ rfl rfl rfl (Nat.le_of_ble_eq_true rfl) [2, 3, 4] [0, 1] [0, 1, 2, 3, 4] rfl rfl rfl rfl (by decide) rfl (fun _ => rfl) (fun _ => rfl) rfl dX4_doesStatement_71 (fun _ => ?_)
      obtain ⟨h17, hf⟩ := ck_isb hf
      obtain rfl := Option.some.inj hf
      exact s_zret C (fun i => i) hr hlk h17 rfl rfl dX4_doesStatement_74
    · replace hf := ite_f hc18 hf
      by_cases hc24 : r1 = (108 : Int32)
      · replace hf := ite_t hc24 hf
        refine s_lookup (off := 89) C 94 dX4_doesStatement_5 rfl (by rw [hc24]; rfl) rfl ?_
        refine s_aload_n C 95 2 rfl dX4_doesStatement_94 rfl ?_
        refine s_aload_n C 96 0 rfl dX4_doesStatement_95 rfl ?_
        refine s_iload_n C 97 1 rfl dX4_doesStatement_96 rfl ?_
        refine s_iconst C 98 rfl dX4_doesStatement_97 ic_1 ?_
        refine s_iadd C 99 rfl dX4_doesStatement_98 ?_
        obtain ⟨r19, q20, hf⟩ := bn_s hf
        refine s_callV (T := TX4) (N := 2) (ci := 3) (q0 := 0) (rest := [.ref b2]) (wr := [(b2, .inr (0, [.ref b3, .ref b4, .int o_heirs, .int o_left, .int o_bitten])), (b3, .inl (cI, 5, .inl o_kinds)), (b4, .inl (cI, 5, .inl o_figures))]) (ws2 := fun _ => (wTextCore b0 b1 b2 b3 b4 cI x_length x_letters o_heirs o_left o_bitten o_kinds o_figures)) C 102 (c_X4_numberAt l D cI adK adV b0 b1 x_length x_letters (a1 + (1 : Int32)) r19 q20) (gV uu415 uu417 uu1546 uu5 uu418) hd_X4_numberAt rfl ⟨rfl, rfl⟩ ⟨Nat.le_of_ble_eq_true rfl, Nat.le_of_ble_eq_true rfl⟩ ⟨Nat.le_of_ble_eq_true rfl, Nat.le_of_ble_eq_true rfl⟩ rfl rfl rfl (Nat.le_of_ble_eq_true rfl) [0, 1] [2, 3, 4] [3, 4, 0, 1, 2] rfl rfl rfl rfl (by decide) rfl (fun _ => rfl) (fun _ => rfl) rfl dX4_doesStatement_99 (fun _ => ?_)
        obtain ⟨r21, q22, hf⟩ := bn_s hf
        refine s_callV (T := TX0) (N := 5) (ci := 0) (q0 := 2) (rest := []) (wr := [(b0, .inr (3, [.ref b1, .int x_length])), (b1, .inl (cI, 96, .inl x_letters))]) (ws2 := fun _ => (wTextCore b0 b1 b2 b3 b4 cI x_length x_letters o_heirs r21.2 o_bitten o_kinds o_figures)) C 105 (c_X0_mends l D cI adK adV b2 b3 b4 o_heirs o_left o_bitten o_kinds o_figures r19 r21 q22) (gV uu437 uu439 uu440 uu2 uu441) hd_X0_mends rfl ⟨rfl, rfl⟩ ⟨Nat.le_of_ble_eq_true rfl, Nat.le_of_ble_eq_true rfl⟩ ⟨Nat.le_of_ble_eq_true rfl, Nat.le_of_ble_eq_true rfl⟩ rfl rfl rfl (Nat.le_of_ble_eq_true rfl) [2, 3, 4] [0, 1] [0, 1, 2, 3, 4] rfl rfl rfl rfl (by decide) rfl (fun _ => rfl) (fun _ => rfl) rfl dX4_doesStatement_102 (fun _ => ?_)
        obtain ⟨h23, hf⟩ := ck_isb hf
        obtain rfl := Option.some.inj hf
        exact s_zret C (fun i => i) hr hlk h23 rfl rfl dX4_doesStatement_105
      · replace hf := ite_f hc24 hf
        by_cases hc28 : r1 = (110 : Int32)
        · replace hf := ite_t hc28 hf
          refine s_lookup (off := 113) C 118 dX4_doesStatement_5 rfl (by rw [hc28]; rfl) rfl ?_
          refine s_aload_n C 119 2 rfl dX4_doesStatement_118 rfl ?_
          obtain ⟨r25, q26, hf⟩ := bn_s hf
          refine s_callV (T := TX0) (N := 5) (ci := 0) (q0 := 2) (rest := []) (wr := [(b0, .inr (3, [.ref b1, .int x_length])), (b1, .inl (cI, 96, .inl x_letters))]) (ws2 := fun _ => (wTextCore b0 b1 b2 b3 b4 cI x_length x_letters o_heirs r25.2.1 r25.2.2 o_kinds o_figures)) C 122 (c_X0_renews l D cI adK adV b2 b3 b4 o_heirs o_left o_bitten o_kinds o_figures r25 q26) (gV uu455 uu457 uu458 uu2 uu459) hd_X0_renews rfl ⟨rfl, rfl⟩ ⟨Nat.le_of_ble_eq_true rfl, Nat.le_of_ble_eq_true rfl⟩ ⟨Nat.le_of_ble_eq_true rfl, Nat.le_of_ble_eq_true rfl⟩ rfl rfl rfl (Nat.le_of_ble_eq_true rfl) [2, 3, 4] [0, 1] [0, 1, 2, 3, 4] rfl rfl rfl rfl (by decide) rfl (fun _ => rfl) (fun _ => rfl) rfl dX4_doesStatement_119 (fun _ => ?_)
          obtain ⟨h27, hf⟩ := ck_isb hf
          obtain rfl := Option.some.inj hf
          exact s_zret C (fun i => i) hr hlk h27 rfl rfl dX4_doesStatement_122
        · replace hf := ite_f hc28 hf
          by_cases hc34 : r1 = (114 : Int32)
          · replace hf := ite_t hc34 hf
            refine s_lookup (off := 101) C 106 dX4_doesStatement_5 rfl (by rw [hc34]; rfl) rfl ?_
            refine s_aload_n C 107 2 rfl dX4_doesStatement_106 rfl ?_
            refine s_aload_n C 108 0 rfl dX4_doesStatement_107 rfl ?_
            refine s_iload_n C 109 1 rfl dX4_doesStatement_108 rfl ?_
            refine s_iconst C 110 rfl dX4_doesStatement_109 ic_1 ?_
            refine s_iadd C 111 rfl dX4_doesStatement_110 ?_
            obtain ⟨r29, q30, hf⟩ := bn_s hf
            refine s_callV (T := TX4) (N := 2) (ci := 3) (q0 := 0) (rest := [.ref b2]) (wr := [(b2, .inr (0, [.ref b3, .ref b4, .int o_heirs, .int o_left, .int o_bitten])), (b3, .inl (cI, 5, .inl o_kinds)), (b4, .inl (cI, 5, .inl o_figures))]) (ws2 := fun _ => (wTextCore b0 b1 b2 b3 b4 cI x_length x_letters o_heirs o_left o_bitten o_kinds o_figures)) C 114 (c_X4_digitAt l D cI adK adV b0 b1 x_length x_letters (a1 + (1 : Int32)) r29 q30) (gV uu404 uu406 uu1545 uu5 uu407) hd_X4_digitAt rfl ⟨rfl, rfl⟩ ⟨Nat.le_of_ble_eq_true rfl, Nat.le_of_ble_eq_true rfl⟩ ⟨Nat.le_of_ble_eq_true rfl, Nat.le_of_ble_eq_true rfl⟩ rfl rfl rfl (Nat.le_of_ble_eq_true rfl) [0, 1] [2, 3, 4] [3, 4, 0, 1, 2] rfl rfl rfl rfl (by decide) rfl (fun _ => rfl) (fun _ => rfl) rfl dX4_doesStatement_111 (fun _ => ?_)
            obtain ⟨r31, q32, hf⟩ := bn_s hf
            refine s_callV (T := TX0) (N := 5) (ci := 0) (q0 := 2) (rest := []) (wr := [(b0, .inr (3, [.ref b1, .int x_length])), (b1, .inl (cI, 96, .inl x_letters))]) (ws2 := fun _ => (wTextCore b0 b1 b2 b3 b4 cI x_length x_letters o_heirs r31.2 o_bitten o_kinds o_figures)) C 117 (c_X0_turnsBy l D cI adK adV b2 b3 b4 o_heirs o_left o_bitten o_kinds o_figures r29 r31 q32) (gV uu444 uu446 uu447 uu2 uu448) hd_X0_turnsBy rfl ⟨rfl, rfl⟩ ⟨Nat.le_of_ble_eq_true rfl, Nat.le_of_ble_eq_true rfl⟩ ⟨Nat.le_of_ble_eq_true rfl, Nat.le_of_ble_eq_true rfl⟩ rfl rfl rfl (Nat.le_of_ble_eq_true rfl) [2, 3, 4] [0, 1] [0, 1, 2, 3, 4] rfl rfl rfl rfl (by decide) rfl (fun _ => rfl) (fun _ => rfl) rfl dX4_doesStatement_114 (fun _ => ?_)
            obtain ⟨h33, hf⟩ := ck_isb hf
            obtain rfl := Option.some.inj hf
            exact s_zret C (fun i => i) hr hlk h33 rfl rfl dX4_doesStatement_117
          · replace hf := ite_f hc34 hf
            refine s_lookup C 123 dX4_doesStatement_5 rfl (sw_off_X4_doesStatement_5 hc10 hc18 hc24 hc28 hc34) rfl ?_
            refine s_iconst C 124 rfl dX4_doesStatement_123 ic_0 ?_
            obtain rfl := Option.some.inj hf
            exact s_zret C (fun i => i) hr hlk (Or.inl rfl) rfl rfl dX4_doesStatement_124

