
theorem hd_X4_takes : yX4_takes.cls = RX4 ∧ yX4_takes.cls ≠ "java/lang/invoke/MethodHandle" ∧ yX4_takes.cls ≠ "java/lang/invoke/VarHandle" ∧ (parseMethodDescriptor yX4_takes.desc).map (fun d => d.parameters.length) = some 1 := by decide +kernel
set_option maxHeartbeats 4000000 in
set_option maxRecDepth 100000 in
theorem c_X4_takes (l : Launch) (D : va_G) (cI : ClassId) (adK adV : Nat → Nat) (b0 : Nat) (b1 : Nat) (x_length : Int32) (x_letters : (Nat → Int32)) (a1 : Int32) (o : Int32 × Int32 × (Nat → Int32)) (hf : f_X4_takes x_length x_letters a1 = some o) : Ct l D cI adK adV yX4_takes (wy yX4_takes cX4_takes 2 (some .int)) { frames := 0, cells := 0, slots := 0, locals := 0 } 0 0 [.ref b0, .int a1] (wText b0 b1 cI x_length x_letters) (fun _ => (wText b0 b1 cI o.2.1 o.2.2)) (some (.int o.1)) := by
  refine Ct.of (cc := cX4_takes) (nL := 2) (ret := (some .int)) (own := RX4) (by decide) (Nat.le_of_ble_eq_true rfl) rfl ?_
  intro p e s m args below meth c A C hr hlk hnm
  refine s_lv (lv1 := [(0, .ref b0), (1, .int a1)]) [0, 1] rfl ?_
  unfold f_X4_takes at hf
  refine s_aload_n C 1 0 rfl dX4_takes_0 rfl ?_
  refine s_get (C1 := RX4) (T := TX4) (N := 2) (ci := 3) C 4 0 1 uX4 rfl rfl (Nat.le_of_ble_eq_true rfl) uu124 rfl rfl rfl dX4_takes_1 ?_
  refine s_bipush C 6 rfl dX4_takes_4 bp_96 ?_
  refine s_icmp_ge C 29 9 rfl dX4_takes_6 rfl (fun hc2 => ?_) (fun hc2 => ?_)
  · replace hf := ite_t hc2 hf
    refine s_aload_n C 30 0 rfl dX4_takes_29 rfl ?_
    refine s_get (C1 := RX4) (T := TX4) (N := 2) (ci := 3) C 33 0 1 uX4 rfl rfl (Nat.le_of_ble_eq_true rfl) uu124 rfl rfl rfl dX4_takes_30 ?_
    obtain rfl := Option.some.inj hf
    exact s_iret C (fun i => i) hr hlk rfl rfl dX4_takes_33
  · replace hf := ite_f hc2 hf
    refine s_aload_n C 10 0 rfl dX4_takes_9 rfl ?_
    refine s_get (C1 := RX4) (T := TX4) (N := 2) (ci := 3) C 13 0 0 uX4 rfl rfl (Nat.le_of_ble_eq_true rfl) uu122 rfl rfl rfl dX4_takes_10 ?_
    refine s_aload_n C 14 0 rfl dX4_takes_13 rfl ?_
    refine s_get (C1 := RX4) (T := TX4) (N := 2) (ci := 3) C 17 0 1 uX4 rfl rfl (Nat.le_of_ble_eq_true rfl) uu124 rfl rfl rfl dX4_takes_14 ?_
    refine s_iload_n C 18 1 rfl dX4_takes_17 rfl ?_
    obtain ⟨h1, hf⟩ := ck_in hf
    refine s_iast (ws1 := (wText b0 b1 cI x_length (upd x_letters x_length.toNatClampNeg a1))) C 19 1 rfl h1 rfl rfl dX4_takes_18 ?_
    refine s_aload_n C 20 0 rfl dX4_takes_19 rfl ?_
    refine s_dup C 21 rfl dX4_takes_20 rfl ?_
    refine s_get (C1 := RX4) (T := TX4) (N := 2) (ci := 3) C 24 0 1 uX4 rfl rfl (Nat.le_of_ble_eq_true rfl) uu124 rfl rfl rfl dX4_takes_21 ?_
    refine s_iconst C 25 rfl dX4_takes_24 ic_1 ?_
    refine s_iadd C 26 rfl dX4_takes_25 ?_
    refine s_put (C1 := RX4) (T := TX4) (N := 2) (ci := 3) (ty := tyX4 1) (ws1 := (wText b0 b1 cI (x_length + (1 : Int32)) (upd x_letters x_length.toNatClampNeg a1))) C 29 0 1 uX4 tyX4 tyX4_ok nmX4 rfl rfl (Nat.le_of_ble_eq_true rfl) uu124 rfl rfl (tyX4_ok 1 (Nat.le_of_ble_eq_true rfl)) ⟨rfl, rfl⟩ (Nat.le_of_ble_eq_true rfl) rfl rfl dX4_takes_26 ?_
    refine s_aload_n C 30 0 rfl dX4_takes_29 rfl ?_
    refine s_get (C1 := RX4) (T := TX4) (N := 2) (ci := 3) C 33 0 1 uX4 rfl rfl (Nat.le_of_ble_eq_true rfl) uu124 rfl rfl rfl dX4_takes_30 ?_
    obtain rfl := Option.some.inj hf
    exact s_iret C (fun i => i) hr hlk rfl rfl dX4_takes_33


theorem hd_X4_letterAt : yX4_letterAt.cls = RX4 ∧ yX4_letterAt.cls ≠ "java/lang/invoke/MethodHandle" ∧ yX4_letterAt.cls ≠ "java/lang/invoke/VarHandle" ∧ (parseMethodDescriptor yX4_letterAt.desc).map (fun d => d.parameters.length) = some 1 := by decide +kernel
set_option maxHeartbeats 4000000 in
set_option maxRecDepth 100000 in
theorem c_X4_letterAt (l : Launch) (D : va_G) (cI : ClassId) (adK adV : Nat → Nat) (b0 : Nat) (b1 : Nat) (x_length : Int32) (x_letters : (Nat → Int32)) (a1 : Int32) (o : Int32) (hf : f_X4_letterAt x_length x_letters a1 = some o) : Ct l D cI adK adV yX4_letterAt (wy yX4_letterAt cX4_letterAt 2 (some .int)) { frames := 0, cells := 0, slots := 0, locals := 0 } 0 0 [.ref b0, .int a1] (wText b0 b1 cI x_length x_letters) (fun _ => (wText b0 b1 cI x_length x_letters)) (some (.int o)) := by
  refine Ct.of (cc := cX4_letterAt) (nL := 2) (ret := (some .int)) (own := RX4) (by decide) (Nat.le_of_ble_eq_true rfl) rfl ?_
  intro p e s m args below meth c A C hr hlk hnm
  refine s_lv (lv1 := [(0, .ref b0), (1, .int a1)]) [0, 1] rfl ?_
  unfold f_X4_letterAt at hf
  refine s_iload_n C 1 1 rfl dX4_letterAt_0 rfl ?_
  refine s_if_lt C 21 4 rfl dX4_letterAt_1 rfl (fun hc3 => ?_) (fun hc3 => ?_)
  · replace hf := ite_t hc3 hf
    refine s_iconst C 22 rfl dX4_letterAt_21 ic_m1 ?_
    obtain rfl := Option.some.inj hf
    exact s_iret C (fun i => i) hr hlk rfl rfl dX4_letterAt_22
  · replace hf := ite_f hc3 hf
    refine s_iload_n C 5 1 rfl dX4_letterAt_4 rfl ?_
    refine s_aload_n C 6 0 rfl dX4_letterAt_5 rfl ?_
    refine s_get (C1 := RX4) (T := TX4) (N := 2) (ci := 3) C 9 0 1 uX4 rfl rfl (Nat.le_of_ble_eq_true rfl) uu124 rfl rfl rfl dX4_letterAt_6 ?_
    refine s_icmp_ge C 21 12 rfl dX4_letterAt_9 rfl (fun hc2 => ?_) (fun hc2 => ?_)
    · replace hf := ite_t hc2 hf
      refine s_iconst C 22 rfl dX4_letterAt_21 ic_m1 ?_
      obtain rfl := Option.some.inj hf
      exact s_iret C (fun i => i) hr hlk rfl rfl dX4_letterAt_22
    · replace hf := ite_f hc2 hf
      refine s_aload_n C 13 0 rfl dX4_letterAt_12 rfl ?_
      refine s_get (C1 := RX4) (T := TX4) (N := 2) (ci := 3) C 16 0 0 uX4 rfl rfl (Nat.le_of_ble_eq_true rfl) uu122 rfl rfl rfl dX4_letterAt_13 ?_
      refine s_iload_n C 17 1 rfl dX4_letterAt_16 rfl ?_
      obtain ⟨h1, hf⟩ := ck_in hf
      refine s_iald C 18 1 rfl h1 rfl dX4_letterAt_17 ?_
      refine s_goto C 22 dX4_letterAt_18 rfl ?_
      obtain rfl := Option.some.inj hf
      exact s_iret C (fun i => i) hr hlk rfl rfl dX4_letterAt_22


theorem hd_X4_digitAt : yX4_digitAt.cls = RX4 ∧ yX4_digitAt.cls ≠ "java/lang/invoke/MethodHandle" ∧ yX4_digitAt.cls ≠ "java/lang/invoke/VarHandle" ∧ (parseMethodDescriptor yX4_digitAt.desc).map (fun d => d.parameters.length) = some 1 := by decide +kernel
set_option maxHeartbeats 4000000 in
set_option maxRecDepth 100000 in
theorem c_X4_digitAt (l : Launch) (D : va_G) (cI : ClassId) (adK adV : Nat → Nat) (b0 : Nat) (b1 : Nat) (x_length : Int32) (x_letters : (Nat → Int32)) (a1 : Int32) (o : Int32) (hf : f_X4_digitAt x_length x_letters a1 = some o) : Ct l D cI adK adV yX4_digitAt (wy yX4_digitAt cX4_digitAt 2 (some .int)) { frames := 1, cells := 0, slots := 0, locals := 21 } 0 0 [.ref b0, .int a1] (wText b0 b1 cI x_length x_letters) (fun _ => (wText b0 b1 cI x_length x_letters)) (some (.int o)) := by
  refine Ct.of (cc := cX4_digitAt) (nL := 2) (ret := (some .int)) (own := RX4) (by decide) (Nat.le_of_ble_eq_true rfl) rfl ?_
  intro p e s m args below meth c A C hr hlk hnm
  refine s_lv (lv1 := [(0, .ref b0), (1, .int a1)]) [0, 1] rfl ?_
  unfold f_X4_digitAt at hf
  refine s_aload_n C 1 0 rfl dX4_digitAt_0 rfl ?_
  refine s_iload_n C 2 1 rfl dX4_digitAt_1 rfl ?_
  obtain ⟨r1, q2, hf⟩ := bn_s hf
  refine s_callW (T := TX4) (N := 2) (ci := 3) (q0 := 0) (rest := []) C 5 (c_X4_letterAt l D cI adK adV b0 b1 x_length x_letters a1 r1 q2) (gV uu203 uu205 uu1558 uu5 uu206) hd_X4_letterAt rfl ⟨rfl, rfl⟩ ⟨Nat.le_of_ble_eq_true rfl, Nat.le_of_ble_eq_true rfl⟩ ⟨Nat.le_of_ble_eq_true rfl, Nat.le_of_ble_eq_true rfl⟩ rfl rfl rfl (Nat.le_of_ble_eq_true rfl) rfl dX4_digitAt_2 (fun _ => ?_)
  refine s_bipush C 7 rfl dX4_digitAt_5 bp_48 ?_
  refine s_isub C 8 rfl dX4_digitAt_7 ?_
  obtain rfl := Option.some.inj hf
  exact s_iret C (fun i => i) hr hlk rfl rfl dX4_digitAt_8


theorem hd_X4_numberAt : yX4_numberAt.cls = RX4 ∧ yX4_numberAt.cls ≠ "java/lang/invoke/MethodHandle" ∧ yX4_numberAt.cls ≠ "java/lang/invoke/VarHandle" ∧ (parseMethodDescriptor yX4_numberAt.desc).map (fun d => d.parameters.length) = some 1 := by decide +kernel
set_option maxHeartbeats 4000000 in
set_option maxRecDepth 100000 in
theorem c_X4_numberAt (l : Launch) (D : va_G) (cI : ClassId) (adK adV : Nat → Nat) (b0 : Nat) (b1 : Nat) (x_length : Int32) (x_letters : (Nat → Int32)) (a1 : Int32) (o : Int32) (hf : f_X4_numberAt x_length x_letters a1 = some o) : Ct l D cI adK adV yX4_numberAt (wy yX4_numberAt cX4_numberAt 2 (some .int)) { frames := 2, cells := 0, slots := 0, locals := 42 } 0 0 [.ref b0, .int a1] (wText b0 b1 cI x_length x_letters) (fun _ => (wText b0 b1 cI x_length x_letters)) (some (.int o)) := by
  refine Ct.of (cc := cX4_numberAt) (nL := 2) (ret := (some .int)) (own := RX4) (by decide) (Nat.le_of_ble_eq_true rfl) rfl ?_
  intro p e s m args below meth c A C hr hlk hnm
  refine s_lv (lv1 := [(0, .ref b0), (1, .int a1)]) [0, 1] rfl ?_
  unfold f_X4_numberAt at hf
  refine s_bipush C 2 rfl dX4_numberAt_0 bp_10 ?_
  refine s_aload_n C 3 0 rfl dX4_numberAt_2 rfl ?_
  refine s_iload_n C 4 1 rfl dX4_numberAt_3 rfl ?_
  obtain ⟨r1, q2, hf⟩ := bn_s hf
  refine s_callW (T := TX4) (N := 2) (ci := 3) (q0 := 0) (rest := [.int (10 : Int32)]) C 7 (c_X4_digitAt l D cI adK adV b0 b1 x_length x_letters a1 r1 q2) (gV uu404 uu406 uu1560 uu5 uu407) hd_X4_digitAt rfl ⟨rfl, rfl⟩ ⟨Nat.le_of_ble_eq_true rfl, Nat.le_of_ble_eq_true rfl⟩ ⟨Nat.le_of_ble_eq_true rfl, Nat.le_of_ble_eq_true rfl⟩ rfl rfl rfl (Nat.le_of_ble_eq_true rfl) rfl dX4_numberAt_4 (fun _ => ?_)
  refine s_imul C 8 rfl dX4_numberAt_7 ?_
  refine s_aload_n C 9 0 rfl dX4_numberAt_8 rfl ?_
  refine s_iload_n C 10 1 rfl dX4_numberAt_9 rfl ?_
  refine s_iconst C 11 rfl dX4_numberAt_10 ic_1 ?_
  refine s_iadd C 12 rfl dX4_numberAt_11 ?_
  obtain ⟨r3, q4, hf⟩ := bn_s hf
  refine s_callW (T := TX4) (N := 2) (ci := 3) (q0 := 0) (rest := [.int ((10 : Int32) * r1)]) C 15 (c_X4_digitAt l D cI adK adV b0 b1 x_length x_letters (a1 + (1 : Int32)) r3 q4) (gV uu404 uu406 uu1560 uu5 uu407) hd_X4_digitAt rfl ⟨rfl, rfl⟩ ⟨Nat.le_of_ble_eq_true rfl, Nat.le_of_ble_eq_true rfl⟩ ⟨Nat.le_of_ble_eq_true rfl, Nat.le_of_ble_eq_true rfl⟩ rfl rfl rfl (Nat.le_of_ble_eq_true rfl) rfl dX4_numberAt_12 (fun _ => ?_)
  refine s_iadd C 16 rfl dX4_numberAt_15 ?_
  obtain rfl := Option.some.inj hf
  exact s_iret C (fun i => i) hr hlk rfl rfl dX4_numberAt_16

theorem sw_off_X4_formAt_5 {x : Int32} (h0 : ¬ x = (98 : Int32)) (h1 : ¬ x = (104 : Int32)) (h2 : ¬ x = (108 : Int32)) (h3 : ¬ x = (110 : Int32)) (h4 : ¬ x = (114 : Int32)) : Op.lookupswitch.offset ([(98, 54), (104, 51), (108, 57), (110, 63), (114, 60)] : List (Int × Int)) (66) x.toInt = 66 := by
  simp only [Op.lookupswitch.offset]
  rw [if_neg (fun q => ne_toInt h0 q.symm)]
  rw [if_neg (fun q => ne_toInt h1 q.symm)]
  rw [if_neg (fun q => ne_toInt h2 q.symm)]
  rw [if_neg (fun q => ne_toInt h3 q.symm)]
  rw [if_neg (fun q => ne_toInt h4 q.symm)]

theorem hd_X4_formAt : yX4_formAt.cls = RX4 ∧ yX4_formAt.cls ≠ "java/lang/invoke/MethodHandle" ∧ yX4_formAt.cls ≠ "java/lang/invoke/VarHandle" ∧ (parseMethodDescriptor yX4_formAt.desc).map (fun d => d.parameters.length) = some 1 := by decide +kernel
set_option maxHeartbeats 4000000 in
set_option maxRecDepth 100000 in
theorem c_X4_formAt (l : Launch) (D : va_G) (cI : ClassId) (adK adV : Nat → Nat) (b0 : Nat) (b1 : Nat) (x_length : Int32) (x_letters : (Nat → Int32)) (a1 : Int32) (o : Nat) (hf : f_X4_formAt x_length x_letters a1 = some o) : Ct l D cI adK adV yX4_formAt (wy yX4_formAt cX4_formAt 2 (some (.object "java/lang/String"))) { frames := 1, cells := 0, slots := 0, locals := 21 } 0 0 [.ref b0, .int a1] (wText b0 b1 cI x_length x_letters) (fun _ => (wText b0 b1 cI x_length x_letters)) (some (.ref (adK o))) := by
  refine Ct.of (cc := cX4_formAt) (nL := 2) (ret := (some (.object "java/lang/String"))) (own := RX4) (by decide) (Nat.le_of_ble_eq_true rfl) rfl ?_
  intro p e s m args below meth c A C hr hlk hnm
  refine s_lv (lv1 := [(0, .ref b0), (1, .int a1)]) [0, 1] rfl ?_
  unfold f_X4_formAt at hf
  refine s_aload_n C 1 0 rfl dX4_formAt_0 rfl ?_
  refine s_iload_n C 2 1 rfl dX4_formAt_1 rfl ?_
  obtain ⟨r1, q2, hf⟩ := bn_s hf
  refine s_callW (T := TX4) (N := 2) (ci := 3) (q0 := 0) (rest := []) C 5 (c_X4_letterAt l D cI adK adV b0 b1 x_length x_letters a1 r1 q2) (gV uu203 uu205 uu1558 uu5 uu206) hd_X4_letterAt rfl ⟨rfl, rfl⟩ ⟨Nat.le_of_ble_eq_true rfl, Nat.le_of_ble_eq_true rfl⟩ ⟨Nat.le_of_ble_eq_true rfl, Nat.le_of_ble_eq_true rfl⟩ rfl rfl rfl (Nat.le_of_ble_eq_true rfl) rfl dX4_formAt_2 (fun _ => ?_)
  by_cases hc3 : r1 = (98 : Int32)
  · replace hf := ite_t hc3 hf
    refine s_lookup (off := 54) C 59 dX4_formAt_5 rfl (by rw [hc3]; rfl) rfl ?_
    refine s_ldcS (i := 1) (tx := "") C 61 rfl dX4_formAt_59 rfl (Nat.le_of_ble_eq_true rfl) rfl ?_
    obtain rfl := Option.some.inj hf
    exact s_aret C (fun i => i) hr hlk rfl rfl dX4_formAt_61
  · replace hf := ite_f hc3 hf
    by_cases hc4 : r1 = (104 : Int32)
    · replace hf := ite_t hc4 hf
      refine s_lookup (off := 51) C 56 dX4_formAt_5 rfl (by rw [hc4]; rfl) rfl ?_
      refine s_ldcS (i := 0) (tx := "") C 58 rfl dX4_formAt_56 rfl (Nat.le_of_ble_eq_true rfl) rfl ?_
      obtain rfl := Option.some.inj hf
      exact s_aret C (fun i => i) hr hlk rfl rfl dX4_formAt_58
    · replace hf := ite_f hc4 hf
      by_cases hc5 : r1 = (108 : Int32)
      · replace hf := ite_t hc5 hf
        refine s_lookup (off := 57) C 62 dX4_formAt_5 rfl (by rw [hc5]; rfl) rfl ?_
        refine s_ldcS (i := 2) (tx := "") C 64 rfl dX4_formAt_62 rfl (Nat.le_of_ble_eq_true rfl) rfl ?_
        obtain rfl := Option.some.inj hf
        exact s_aret C (fun i => i) hr hlk rfl rfl dX4_formAt_64
      · replace hf := ite_f hc5 hf
        by_cases hc6 : r1 = (110 : Int32)
        · replace hf := ite_t hc6 hf
          refine s_lookup (off := 63) C 68 dX4_formAt_5 rfl (by rw [hc6]; rfl) rfl ?_
          refine s_ldcS (i := 4) (tx := "") C 70 rfl dX4_formAt_68 rfl (Nat.le_of_ble_eq_true rfl) rfl ?_
          obtain rfl := Option.some.inj hf
          exact s_aret C (fun i => i) hr hlk rfl rfl dX4_formAt_70
        · replace hf := ite_f hc6 hf
          by_cases hc7 : r1 = (114 : Int32)
          · replace hf := ite_t hc7 hf
            refine s_lookup (off := 60) C 65 dX4_formAt_5 rfl (by rw [hc7]; rfl) rfl ?_
            refine s_ldcS (i := 3) (tx := "") C 67 rfl dX4_formAt_65 rfl (Nat.le_of_ble_eq_true rfl) rfl ?_
            obtain rfl := Option.some.inj hf
            exact s_aret C (fun i => i) hr hlk rfl rfl dX4_formAt_67
          · replace hf := ite_f hc7 hf
            refine s_lookup C 71 dX4_formAt_5 rfl (sw_off_X4_formAt_5 hc3 hc4 hc5 hc6 hc7) rfl ?_
            refine s_ldcS (i := 5) (tx := "") C 73 rfl dX4_formAt_71 rfl (Nat.le_of_ble_eq_true rfl) rfl ?_
            obtain rfl := Option.some.inj hf
            exact s_aret C (fun i => i) hr hlk rfl rfl dX4_formAt_73

