
theorem hd_X5_anew : yX5_anew.cls = RX5 ∧ yX5_anew.cls ≠ "java/lang/invoke/MethodHandle" ∧ yX5_anew.cls ≠ "java/lang/invoke/VarHandle" ∧ (parseMethodDescriptor yX5_anew.desc).map (fun d => d.parameters.length) = some 0 := by decide +kernel
set_option maxHeartbeats 4000000 in
set_option maxRecDepth 100000 in
theorem c_X5_anew (l : Launch) (D : va_G) (cI : ClassId) (adK adV : Nat → Nat) (ad : Nat → Nat) (kc : Nat → Nat) (tolds : Int32) (hasImage : Int32) (n_heirs : Int32) (n_left : Int32) (n_bitten : Int32) (n_kinds : (Nat → Int32)) (n_figures : (Nat → Int32)) (k_heirs : Int32) (k_left : Int32) (k_bitten : Int32) (k_kinds : (Nat → Int32)) (k_figures : (Nat → Int32)) (t_heirs : Int32) (t_left : Int32) (t_bitten : Int32) (t_kinds : (Nat → Int32)) (t_figures : (Nat → Int32)) (r_gone : Int32) (r_heaps : Int32) (r_fewestCells : Int32) (r_deed : Int32) (c_ways : (Nat → Int32)) (c_fewest : (Nat → Int32)) (c_nextWays : (Nat → Int32)) (c_nextFewest : (Nat → Int32)) (x_length : Int32) (x_letters : (Nat → Int32)) (told : (Nat → Int32)) (refusals : (Nat → Int32)) (ends : (Nat → Int32))  (o : Int32 × Int32 × Int32) (hf : f_X5_anew n_bitten = some o) : Ct l D cI adK adV yX5_anew (wy yX5_anew cX5_anew 2 (some .int)) { frames := 1, cells := 0, slots := 0, locals := 20 } 0 0 [.ref (ad 0)] (wX ad kc cI tolds hasImage n_heirs n_left n_bitten n_kinds n_figures k_heirs k_left k_bitten k_kinds k_figures t_heirs t_left t_bitten t_kinds t_figures r_gone r_heaps r_fewestCells r_deed c_ways c_fewest c_nextWays c_nextFewest x_length x_letters told refusals ends) (fun _ => (wX ad kc cI tolds hasImage n_heirs o.2.1 o.2.2 n_kinds n_figures k_heirs k_left k_bitten k_kinds k_figures t_heirs t_left t_bitten t_kinds t_figures r_gone r_heaps r_fewestCells r_deed c_ways c_fewest c_nextWays c_nextFewest x_length x_letters told refusals ends)) (some (.int o.1)) := by
  refine Ct.of (cc := cX5_anew) (nL := 2) (ret := (some .int)) (own := RX5) (by decide) (Nat.le_of_ble_eq_true rfl) rfl ?_
  intro p e s m args below meth c A C hr hlk hnm
  refine s_lv (lv1 := [(0, .ref (ad 0))]) [0] rfl ?_
  unfold f_X5_anew at hf
  refine s_aload_n C 1 0 rfl dX5_anew_0 rfl ?_
  refine s_get (C1 := RX5) (T := TX5) (N := 11) (ci := 4) C 4 0 0 uX5 rfl rfl (Nat.le_of_ble_eq_true rfl) uu130 rfl rfl rfl dX5_anew_1 ?_
  refine s_get (C1 := RX0) (T := TX0) (N := 5) (ci := 0) C 7 1 4 uX0 rfl rfl (Nat.le_of_ble_eq_true rfl) uu57 rfl rfl rfl dX5_anew_4 ?_
  refine s_istore_n (lv1 := [(1, .int n_bitten), (0, .ref (ad 0))]) C 8 1 rfl dX5_anew_7 rfl (Nat.le_of_ble_eq_true rfl) rfl ?_
  refine s_aload_n C 9 1 rfl dX5_anew_8 rfl ?_
  refine s_get (C1 := RX5) (T := TX5) (N := 11) (ci := 4) C 12 0 0 uX5 rfl rfl (Nat.le_of_ble_eq_true rfl) uu130 rfl rfl rfl dX5_anew_9 ?_
  obtain ⟨r1, q2, hf⟩ := bn_s hf
  refine s_callV (T := TX0) (N := 5) (ci := 0) (q0 := 1) (rest := []) (wr := [((ad 0), .inr (4, [.ref (ad 1), .ref (ad 4), .ref (ad 7), .ref (ad 10), .ref (ad 11), .ref (ad 12), .ref (ad 14), .ref (ad 15), .ref (ad 16), .int tolds, .int hasImage])), ((ad 4), .inr (0, [.ref (ad 5), .ref (ad 6), .int k_heirs, .int k_left, .int k_bitten])), ((ad 5), .inl (cI, 5, .inl k_kinds)), ((ad 6), .inl (cI, 5, .inl k_figures)), ((ad 7), .inr (0, [.ref (ad 8), .ref (ad 9), .int t_heirs, .int t_left, .int t_bitten])), ((ad 8), .inl (cI, 5, .inl t_kinds)), ((ad 9), .inl (cI, 5, .inl t_figures)), ((ad 10), .inr (2, [.int r_gone, .int r_heaps, .int r_fewestCells, .int r_deed])), ((ad 11), .inr (1, [.ref (kc 0), .ref (kc 1), .ref (kc 2), .ref (kc 3)])), ((kc 0), .inl (cI, 64, .inl c_ways)), ((kc 1), .inl (cI, 64, .inl c_fewest)), ((kc 2), .inl (cI, 64, .inl c_nextWays)), ((kc 3), .inl (cI, 64, .inl c_nextFewest)), ((ad 12), .inr (3, [.ref (ad 13), .int x_length])), ((ad 13), .inl (cI, 96, .inl x_letters)), ((ad 14), .inl (cI, 16, .inl told)), ((ad 15), .inl (cI, 7, .inl refusals)), ((ad 16), .inl (cI, 4, .inl ends))]) (ws2 := fun _ => (wX ad kc cI tolds hasImage n_heirs r1.2.1 r1.2.2 n_kinds n_figures k_heirs k_left k_bitten k_kinds k_figures t_heirs t_left t_bitten t_kinds t_figures r_gone r_heaps r_fewestCells r_deed c_ways c_fewest c_nextWays c_nextFewest x_length x_letters told refusals ends)) C 15 (c_X0_renews l D cI adK adV (ad 1) (ad 2) (ad 3) n_heirs n_left n_bitten n_kinds n_figures r1 q2) (gV uu593 uu457 uu458 uu2 uu459) hd_X0_renews rfl ⟨rfl, rfl⟩ ⟨Nat.le_of_ble_eq_true rfl, Nat.le_of_ble_eq_true rfl⟩ ⟨Nat.le_of_ble_eq_true rfl, Nat.le_of_ble_eq_true rfl⟩ rfl rfl rfl (Nat.le_of_ble_eq_true rfl) [1, 2, 3] [0, 4, 5, 6, 7, 8, 9, 10, 11, 12, 13, 14, 15, 16, 17, 18, 19, 20] [0, 18, 19, 20, 1, 2, 3, 4, 5, 6, 7, 8, 9, 10, 11, 12, 13, 14, 15, 16, 17] rfl rfl rfl rfl (by decide) rfl (fun _ => rfl) (fun _ => rfl) rfl dX5_anew_12 (fun _ => ?_)
  refine s_pop C 16 rfl dX5_anew_15 rfl ?_
  refine s_iload_n C 17 0 rfl dX5_anew_16 rfl ?_
  obtain rfl := Option.some.inj hf
  exact s_iret C kc hr hlk rfl rfl dX5_anew_17


theorem hd_X5_clear : yX5_clear.cls = RX5 ∧ yX5_clear.cls ≠ "java/lang/invoke/MethodHandle" ∧ yX5_clear.cls ≠ "java/lang/invoke/VarHandle" ∧ (parseMethodDescriptor yX5_clear.desc).map (fun d => d.parameters.length) = some 0 := by decide +kernel
set_option maxHeartbeats 4000000 in
set_option maxRecDepth 100000 in
theorem c_X5_clear (l : Launch) (D : va_G) (cI : ClassId) (adK adV : Nat → Nat) (ad : Nat → Nat) (kc : Nat → Nat) (tolds : Int32) (hasImage : Int32) (n_heirs : Int32) (n_left : Int32) (n_bitten : Int32) (n_kinds : (Nat → Int32)) (n_figures : (Nat → Int32)) (k_heirs : Int32) (k_left : Int32) (k_bitten : Int32) (k_kinds : (Nat → Int32)) (k_figures : (Nat → Int32)) (t_heirs : Int32) (t_left : Int32) (t_bitten : Int32) (t_kinds : (Nat → Int32)) (t_figures : (Nat → Int32)) (r_gone : Int32) (r_heaps : Int32) (r_fewestCells : Int32) (r_deed : Int32) (c_ways : (Nat → Int32)) (c_fewest : (Nat → Int32)) (c_nextWays : (Nat → Int32)) (c_nextFewest : (Nat → Int32)) (x_length : Int32) (x_letters : (Nat → Int32)) (told : (Nat → Int32)) (refusals : (Nat → Int32)) (ends : (Nat → Int32))  (o : Int32 × Int32) (hf : f_X5_clear tolds = some o) : Ct l D cI adK adV yX5_clear (wy yX5_clear cX5_clear 2 (some .int)) { frames := 0, cells := 0, slots := 0, locals := 0 } 0 0 [.ref (ad 0)] (wX ad kc cI tolds hasImage n_heirs n_left n_bitten n_kinds n_figures k_heirs k_left k_bitten k_kinds k_figures t_heirs t_left t_bitten t_kinds t_figures r_gone r_heaps r_fewestCells r_deed c_ways c_fewest c_nextWays c_nextFewest x_length x_letters told refusals ends) (fun _ => (wX ad kc cI o.2 hasImage n_heirs n_left n_bitten n_kinds n_figures k_heirs k_left k_bitten k_kinds k_figures t_heirs t_left t_bitten t_kinds t_figures r_gone r_heaps r_fewestCells r_deed c_ways c_fewest c_nextWays c_nextFewest x_length x_letters told refusals ends)) (some (.int o.1)) := by
  refine Ct.of (cc := cX5_clear) (nL := 2) (ret := (some .int)) (own := RX5) (by decide) (Nat.le_of_ble_eq_true rfl) rfl ?_
  intro p e s m args below meth c A C hr hlk hnm
  refine s_lv (lv1 := [(0, .ref (ad 0))]) [0] rfl ?_
  unfold f_X5_clear at hf
  refine s_aload_n C 1 0 rfl dX5_clear_0 rfl ?_
  refine s_get (C1 := RX5) (T := TX5) (N := 11) (ci := 4) C 4 0 9 uX5 rfl rfl (Nat.le_of_ble_eq_true rfl) uu148 rfl rfl rfl dX5_clear_1 ?_
  refine s_istore_n (lv1 := [(1, .int tolds), (0, .ref (ad 0))]) C 5 1 rfl dX5_clear_4 rfl (Nat.le_of_ble_eq_true rfl) rfl ?_
  refine s_aload_n C 6 1 rfl dX5_clear_5 rfl ?_
  refine s_iconst C 7 rfl dX5_clear_6 ic_0 ?_
  refine s_put (C1 := RX5) (T := TX5) (N := 11) (ci := 4) (ty := tyX5 9) (ws1 := (wX ad kc cI (0 : Int32) hasImage n_heirs n_left n_bitten n_kinds n_figures k_heirs k_left k_bitten k_kinds k_figures t_heirs t_left t_bitten t_kinds t_figures r_gone r_heaps r_fewestCells r_deed c_ways c_fewest c_nextWays c_nextFewest x_length x_letters told refusals ends)) C 10 0 9 uX5 tyX5 tyX5_ok nmX5 rfl rfl (Nat.le_of_ble_eq_true rfl) uu148 rfl rfl (tyX5_ok 9 (Nat.le_of_ble_eq_true rfl)) ⟨rfl, rfl⟩ (Nat.le_of_ble_eq_true rfl) rfl rfl dX5_clear_7 ?_
  refine s_iload_n C 11 0 rfl dX5_clear_10 rfl ?_
  obtain rfl := Option.some.inj hf
  exact s_iret C kc hr hlk rfl rfl dX5_clear_11


theorem hd_X5_image : yX5_image.cls = RX5 ∧ yX5_image.cls ≠ "java/lang/invoke/MethodHandle" ∧ yX5_image.cls ≠ "java/lang/invoke/VarHandle" ∧ (parseMethodDescriptor yX5_image.desc).map (fun d => d.parameters.length) = some 0 := by decide +kernel
set_option maxHeartbeats 4000000 in
set_option maxRecDepth 100000 in
theorem c_X5_image (l : Launch) (D : va_G) (cI : ClassId) (adK adV : Nat → Nat) (ad : Nat → Nat) (kc : Nat → Nat) (tolds : Int32) (hasImage : Int32) (n_heirs : Int32) (n_left : Int32) (n_bitten : Int32) (n_kinds : (Nat → Int32)) (n_figures : (Nat → Int32)) (k_heirs : Int32) (k_left : Int32) (k_bitten : Int32) (k_kinds : (Nat → Int32)) (k_figures : (Nat → Int32)) (t_heirs : Int32) (t_left : Int32) (t_bitten : Int32) (t_kinds : (Nat → Int32)) (t_figures : (Nat → Int32)) (r_gone : Int32) (r_heaps : Int32) (r_fewestCells : Int32) (r_deed : Int32) (c_ways : (Nat → Int32)) (c_fewest : (Nat → Int32)) (c_nextWays : (Nat → Int32)) (c_nextFewest : (Nat → Int32)) (x_length : Int32) (x_letters : (Nat → Int32)) (told : (Nat → Int32)) (refusals : (Nat → Int32)) (ends : (Nat → Int32))  (o : Int32 × Int32 × Int32 × Int32 × Int32 × (Nat → Int32) × (Nat → Int32)) (hf : f_X5_image n_heirs n_left n_bitten n_kinds n_figures k_kinds k_figures = some o) : Ct l D cI adK adV yX5_image (wy yX5_image cX5_image 1 (some .int)) { frames := 2, cells := 0, slots := 0, locals := 81 } 0 0 [.ref (ad 0)] (wX ad kc cI tolds hasImage n_heirs n_left n_bitten n_kinds n_figures k_heirs k_left k_bitten k_kinds k_figures t_heirs t_left t_bitten t_kinds t_figures r_gone r_heaps r_fewestCells r_deed c_ways c_fewest c_nextWays c_nextFewest x_length x_letters told refusals ends) (fun _ => (wX ad kc cI tolds o.2.1 n_heirs n_left n_bitten n_kinds n_figures o.2.2.1 o.2.2.2.1 o.2.2.2.2.1 o.2.2.2.2.2.1 o.2.2.2.2.2.2 t_heirs t_left t_bitten t_kinds t_figures r_gone r_heaps r_fewestCells r_deed c_ways c_fewest c_nextWays c_nextFewest x_length x_letters told refusals ends)) (some (.int o.1)) := by
  refine Ct.of (cc := cX5_image) (nL := 1) (ret := (some .int)) (own := RX5) (by decide) (Nat.le_of_ble_eq_true rfl) rfl ?_
  intro p e s m args below meth c A C hr hlk hnm
  refine s_lv (lv1 := [(0, .ref (ad 0))]) [0] rfl ?_
  unfold f_X5_image at hf
  refine s_aload_n C 1 0 rfl dX5_image_0 rfl ?_
  refine s_get (C1 := RX5) (T := TX5) (N := 11) (ci := 4) C 4 0 1 uX5 rfl rfl (Nat.le_of_ble_eq_true rfl) uu132 rfl rfl rfl dX5_image_1 ?_
  refine s_aload_n C 5 0 rfl dX5_image_4 rfl ?_
  refine s_get (C1 := RX5) (T := TX5) (N := 11) (ci := 4) C 8 0 0 uX5 rfl rfl (Nat.le_of_ble_eq_true rfl) uu130 rfl rfl rfl dX5_image_5 ?_
  obtain ⟨r1, q2, hf⟩ := bn_s hf
  refine s_callV (T := TX0) (N := 5) (ci := 0) (q0 := 4) (rest := []) (wr := [((ad 0), .inr (4, [.ref (ad 1), .ref (ad 4), .ref (ad 7), .ref (ad 10), .ref (ad 11), .ref (ad 12), .ref (ad 14), .ref (ad 15), .ref (ad 16), .int tolds, .int hasImage])), ((ad 7), .inr (0, [.ref (ad 8), .ref (ad 9), .int t_heirs, .int t_left, .int t_bitten])), ((ad 8), .inl (cI, 5, .inl t_kinds)), ((ad 9), .inl (cI, 5, .inl t_figures)), ((ad 10), .inr (2, [.int r_gone, .int r_heaps, .int r_fewestCells, .int r_deed])), ((ad 11), .inr (1, [.ref (kc 0), .ref (kc 1), .ref (kc 2), .ref (kc 3)])), ((kc 0), .inl (cI, 64, .inl c_ways)), ((kc 1), .inl (cI, 64, .inl c_fewest)), ((kc 2), .inl (cI, 64, .inl c_nextWays)), ((kc 3), .inl (cI, 64, .inl c_nextFewest)), ((ad 12), .inr (3, [.ref (ad 13), .int x_length])), ((ad 13), .inl (cI, 96, .inl x_letters)), ((ad 14), .inl (cI, 16, .inl told)), ((ad 15), .inl (cI, 7, .inl refusals)), ((ad 16), .inl (cI, 4, .inl ends))]) (ws2 := fun _ => (wX ad kc cI tolds hasImage n_heirs n_left n_bitten n_kinds n_figures r1.1 r1.2.1 r1.2.2.1 r1.2.2.2.1 r1.2.2.2.2 t_heirs t_left t_bitten t_kinds t_figures r_gone r_heaps r_fewestCells r_deed c_ways c_fewest c_nextWays c_nextFewest x_length x_letters told refusals ends)) C 11 (c_X0_becomes l D cI adK adV (ad 4) (ad 5) (ad 6) (ad 1) (ad 2) (ad 3) k_heirs k_left k_bitten k_kinds k_figures n_heirs n_left n_bitten n_kinds n_figures r1 q2) (gV uu383 uu385 uu386 uu2 uu387) hd_X0_becomes rfl ⟨rfl, rfl⟩ ⟨Nat.le_of_ble_eq_true rfl, Nat.le_of_ble_eq_true rfl⟩ ⟨Nat.le_of_ble_eq_true rfl, Nat.le_of_ble_eq_true rfl⟩ rfl rfl rfl (Nat.le_of_ble_eq_true rfl) [4, 5, 6, 1, 2, 3] [0, 7, 8, 9, 10, 11, 12, 13, 14, 15, 16, 17, 18, 19, 20] [0, 18, 19, 20, 15, 16, 17, 1, 2, 3, 4, 5, 6, 7, 8, 9, 10, 11, 12, 13, 14] rfl rfl rfl rfl (by decide) rfl (fun _ => rfl) (fun _ => rfl) rfl dX5_image_8 (fun _ => ?_)
  refine s_aload_n C 12 0 rfl dX5_image_11 rfl ?_
  refine s_iconst C 13 rfl dX5_image_12 ic_1 ?_
  refine s_put (C1 := RX5) (T := TX5) (N := 11) (ci := 4) (ty := tyX5 10) (ws1 := (wX ad kc cI tolds (1 : Int32) n_heirs n_left n_bitten n_kinds n_figures r1.1 r1.2.1 r1.2.2.1 r1.2.2.2.1 r1.2.2.2.2 t_heirs t_left t_bitten t_kinds t_figures r_gone r_heaps r_fewestCells r_deed c_ways c_fewest c_nextWays c_nextFewest x_length x_letters told refusals ends)) C 16 0 10 uX5 tyX5 tyX5_ok nmX5 rfl rfl (Nat.le_of_ble_eq_true rfl) uu150 rfl rfl (tyX5_ok 10 (Nat.le_of_ble_eq_true rfl)) (by decide) (Nat.le_of_ble_eq_true rfl) rfl rfl dX5_image_13 ?_
  refine s_aload_n C 17 0 rfl dX5_image_16 rfl ?_
  refine s_get (C1 := RX5) (T := TX5) (N := 11) (ci := 4) C 20 0 0 uX5 rfl rfl (Nat.le_of_ble_eq_true rfl) uu130 rfl rfl rfl dX5_image_17 ?_
  refine s_get (C1 := RX0) (T := TX0) (N := 5) (ci := 0) C 23 1 4 uX0 rfl rfl (Nat.le_of_ble_eq_true rfl) uu57 rfl rfl rfl dX5_image_20 ?_
  obtain rfl := Option.some.inj hf
  exact s_iret C kc hr hlk rfl rfl dX5_image_23


theorem hd_X5_letter : yX5_letter.cls = RX5 ∧ yX5_letter.cls ≠ "java/lang/invoke/MethodHandle" ∧ yX5_letter.cls ≠ "java/lang/invoke/VarHandle" ∧ (parseMethodDescriptor yX5_letter.desc).map (fun d => d.parameters.length) = some 1 := by decide +kernel
set_option maxHeartbeats 4000000 in
set_option maxRecDepth 100000 in
theorem c_X5_letter (l : Launch) (D : va_G) (cI : ClassId) (adK adV : Nat → Nat) (ad : Nat → Nat) (kc : Nat → Nat) (tolds : Int32) (hasImage : Int32) (n_heirs : Int32) (n_left : Int32) (n_bitten : Int32) (n_kinds : (Nat → Int32)) (n_figures : (Nat → Int32)) (k_heirs : Int32) (k_left : Int32) (k_bitten : Int32) (k_kinds : (Nat → Int32)) (k_figures : (Nat → Int32)) (t_heirs : Int32) (t_left : Int32) (t_bitten : Int32) (t_kinds : (Nat → Int32)) (t_figures : (Nat → Int32)) (r_gone : Int32) (r_heaps : Int32) (r_fewestCells : Int32) (r_deed : Int32) (c_ways : (Nat → Int32)) (c_fewest : (Nat → Int32)) (c_nextWays : (Nat → Int32)) (c_nextFewest : (Nat → Int32)) (x_length : Int32) (x_letters : (Nat → Int32)) (told : (Nat → Int32)) (refusals : (Nat → Int32)) (ends : (Nat → Int32)) (a1 : Int32) (o : Int32 × Int32 × (Nat → Int32) × (Nat → Int32)) (hf : f_X5_letter x_length x_letters refusals a1 = some o) : Ct l D cI adK adV yX5_letter (wy yX5_letter cX5_letter 2 (some .int)) { frames := 1, cells := 0, slots := 0, locals := 21 } 0 0 [.ref (ad 0), .int a1] (wX ad kc cI tolds hasImage n_heirs n_left n_bitten n_kinds n_figures k_heirs k_left k_bitten k_kinds k_figures t_heirs t_left t_bitten t_kinds t_figures r_gone r_heaps r_fewestCells r_deed c_ways c_fewest c_nextWays c_nextFewest x_length x_letters told refusals ends) (fun _ => (wX ad kc cI tolds hasImage n_heirs n_left n_bitten n_kinds n_figures k_heirs k_left k_bitten k_kinds k_figures t_heirs t_left t_bitten t_kinds t_figures r_gone r_heaps r_fewestCells r_deed c_ways c_fewest c_nextWays c_nextFewest o.2.1 o.2.2.1 told o.2.2.2 ends)) (some (.int o.1)) := by
  refine Ct.of (cc := cX5_letter) (nL := 2) (ret := (some .int)) (own := RX5) (by decide) (Nat.le_of_ble_eq_true rfl) rfl ?_
  intro p e s m args below meth c A C hr hlk hnm
  refine s_lv (lv1 := [(0, .ref (ad 0)), (1, .int a1)]) [0, 1] rfl ?_
  unfold f_X5_letter at hf
  refine s_iload_n C 1 1 rfl dX5_letter_0 rfl ?_
  refine s_if_ge C 11 4 rfl dX5_letter_1 rfl (fun hc11 => ?_) (fun hc11 => ?_)
  · replace hf := ite_t hc11 hf
    refine s_iload_n C 12 1 rfl dX5_letter_11 rfl ?_
    refine s_sipush C 15 rfl dX5_letter_12 sp_255 ?_
    refine s_icmp_gt C 30 18 rfl dX5_letter_15 rfl (fun hc8 => ?_) (fun hc8 => ?_)
    · replace hf := ite_t hc8 hf
      refine s_aload_n C 31 0 rfl dX5_letter_30 rfl ?_
      refine s_bipush C 33 rfl dX5_letter_31 bp_m6 ?_
      obtain ⟨r1, q2, hf⟩ := bn_s hf
      refine s_callW (T := TX5) (N := 11) (ci := 4) (q0 := 0) (rest := []) C 36 (c_X5_refused l D cI adK adV ad kc tolds hasImage n_heirs n_left n_bitten n_kinds n_figures k_heirs k_left k_bitten k_kinds k_figures t_heirs t_left t_bitten t_kinds t_figures r_gone r_heaps r_fewestCells r_deed c_ways c_fewest c_nextWays c_nextFewest x_length x_letters told refusals ends (-6 : Int32) r1 q2) (gV uu169 uu171 uu1541 uu1 uu172) hd_X5_refused rfl ⟨rfl, rfl⟩ ⟨Nat.le_of_ble_eq_true rfl, Nat.le_of_ble_eq_true rfl⟩ ⟨Nat.le_of_ble_eq_true rfl, Nat.le_of_ble_eq_true rfl⟩ rfl rfl rfl (Nat.le_of_ble_eq_true rfl) rfl dX5_letter_33 (fun _ => ?_)
      obtain rfl := Option.some.inj hf
      exact s_iret C kc hr hlk rfl rfl dX5_letter_36
    · replace hf := ite_f hc8 hf
      refine s_aload_n C 19 0 rfl dX5_letter_18 rfl ?_
      refine s_get (C1 := RX5) (T := TX5) (N := 11) (ci := 4) C 22 0 5 uX5 rfl rfl (Nat.le_of_ble_eq_true rfl) uu140 rfl rfl rfl dX5_letter_19 ?_
      refine s_get (C1 := RX4) (T := TX4) (N := 2) (ci := 3) C 25 16 1 uX4 rfl rfl (Nat.le_of_ble_eq_true rfl) uu126 rfl rfl rfl dX5_letter_22 ?_
      refine s_bipush C 27 rfl dX5_letter_25 bp_96 ?_
      refine s_icmp_lt C 37 30 rfl dX5_letter_27 rfl (fun hc7 => ?_) (fun hc7 => ?_)
      · replace hf := ite_t hc7 hf
        refine s_aload_n C 38 0 rfl dX5_letter_37 rfl ?_
        refine s_get (C1 := RX5) (T := TX5) (N := 11) (ci := 4) C 41 0 5 uX5 rfl rfl (Nat.le_of_ble_eq_true rfl) uu140 rfl rfl rfl dX5_letter_38 ?_
        refine s_iload_n C 42 1 rfl dX5_letter_41 rfl ?_
        obtain ⟨r3, q4, hf⟩ := bn_s hf
        refine s_callV (T := TX4) (N := 2) (ci := 3) (q0 := 16) (rest := []) (wr := [((ad 0), .inr (4, [.ref (ad 1), .ref (ad 4), .ref (ad 7), .ref (ad 10), .ref (ad 11), .ref (ad 12), .ref (ad 14), .ref (ad 15), .ref (ad 16), .int tolds, .int hasImage])), ((ad 1), .inr (0, [.ref (ad 2), .ref (ad 3), .int n_heirs, .int n_left, .int n_bitten])), ((ad 2), .inl (cI, 5, .inl n_kinds)), ((ad 3), .inl (cI, 5, .inl n_figures)), ((ad 4), .inr (0, [.ref (ad 5), .ref (ad 6), .int k_heirs, .int k_left, .int k_bitten])), ((ad 5), .inl (cI, 5, .inl k_kinds)), ((ad 6), .inl (cI, 5, .inl k_figures)), ((ad 7), .inr (0, [.ref (ad 8), .ref (ad 9), .int t_heirs, .int t_left, .int t_bitten])), ((ad 8), .inl (cI, 5, .inl t_kinds)), ((ad 9), .inl (cI, 5, .inl t_figures)), ((ad 10), .inr (2, [.int r_gone, .int r_heaps, .int r_fewestCells, .int r_deed])), ((ad 11), .inr (1, [.ref (kc 0), .ref (kc 1), .ref (kc 2), .ref (kc 3)])), ((kc 0), .inl (cI, 64, .inl c_ways)), ((kc 1), .inl (cI, 64, .inl c_fewest)), ((kc 2), .inl (cI, 64, .inl c_nextWays)), ((kc 3), .inl (cI, 64, .inl c_nextFewest)), ((ad 14), .inl (cI, 16, .inl told)), ((ad 15), .inl (cI, 7, .inl refusals)), ((ad 16), .inl (cI, 4, .inl ends))]) (ws2 := fun _ => (wX ad kc cI tolds hasImage n_heirs n_left n_bitten n_kinds n_figures k_heirs k_left k_bitten k_kinds k_figures t_heirs t_left t_bitten t_kinds t_figures r_gone r_heaps r_fewestCells r_deed c_ways c_fewest c_nextWays c_nextFewest r3.2.1 r3.2.2 told refusals ends)) C 45 (c_X4_takes l D cI adK adV (ad 12) (ad 13) x_length x_letters a1 r3 q4) (gV uu174 uu176 uu177 uu5 uu178) hd_X4_takes rfl ⟨rfl, rfl⟩ ⟨Nat.le_of_ble_eq_true rfl, Nat.le_of_ble_eq_true rfl⟩ ⟨Nat.le_of_ble_eq_true rfl, Nat.le_of_ble_eq_true rfl⟩ rfl rfl rfl (Nat.le_of_ble_eq_true rfl) [16, 17] [0, 1, 2, 3, 4, 5, 6, 7, 8, 9, 10, 11, 12, 13, 14, 15, 18, 19, 20] [0, 1, 2, 3, 4, 5, 6, 7, 8, 9, 10, 11, 12, 13, 14, 15, 19, 20, 16, 17, 18] rfl rfl rfl rfl (by decide) rfl (fun _ => rfl) (fun _ => rfl) rfl dX5_letter_42 (fun _ => ?_)
        obtain rfl := Option.some.inj hf
        exact s_iret C kc hr hlk rfl rfl dX5_letter_45
      · replace hf := ite_f hc7 hf
        refine s_aload_n C 31 0 rfl dX5_letter_30 rfl ?_
        refine s_bipush C 33 rfl dX5_letter_31 bp_m6 ?_
        obtain ⟨r5, q6, hf⟩ := bn_s hf
        refine s_callW (T := TX5) (N := 11) (ci := 4) (q0 := 0) (rest := []) C 36 (c_X5_refused l D cI adK adV ad kc tolds hasImage n_heirs n_left n_bitten n_kinds n_figures k_heirs k_left k_bitten k_kinds k_figures t_heirs t_left t_bitten t_kinds t_figures r_gone r_heaps r_fewestCells r_deed c_ways c_fewest c_nextWays c_nextFewest x_length x_letters told refusals ends (-6 : Int32) r5 q6) (gV uu169 uu171 uu1541 uu1 uu172) hd_X5_refused rfl ⟨rfl, rfl⟩ ⟨Nat.le_of_ble_eq_true rfl, Nat.le_of_ble_eq_true rfl⟩ ⟨Nat.le_of_ble_eq_true rfl, Nat.le_of_ble_eq_true rfl⟩ rfl rfl rfl (Nat.le_of_ble_eq_true rfl) rfl dX5_letter_33 (fun _ => ?_)
        obtain rfl := Option.some.inj hf
        exact s_iret C kc hr hlk rfl rfl dX5_letter_36
  · replace hf := ite_f hc11 hf
    refine s_aload_n C 5 0 rfl dX5_letter_4 rfl ?_
    refine s_bipush C 7 rfl dX5_letter_5 bp_m4 ?_
    obtain ⟨r9, q10, hf⟩ := bn_s hf
    refine s_callW (T := TX5) (N := 11) (ci := 4) (q0 := 0) (rest := []) C 10 (c_X5_refused l D cI adK adV ad kc tolds hasImage n_heirs n_left n_bitten n_kinds n_figures k_heirs k_left k_bitten k_kinds k_figures t_heirs t_left t_bitten t_kinds t_figures r_gone r_heaps r_fewestCells r_deed c_ways c_fewest c_nextWays c_nextFewest x_length x_letters told refusals ends (-4 : Int32) r9 q10) (gV uu169 uu171 uu1541 uu1 uu172) hd_X5_refused rfl ⟨rfl, rfl⟩ ⟨Nat.le_of_ble_eq_true rfl, Nat.le_of_ble_eq_true rfl⟩ ⟨Nat.le_of_ble_eq_true rfl, Nat.le_of_ble_eq_true rfl⟩ rfl rfl rfl (Nat.le_of_ble_eq_true rfl) rfl dX5_letter_7 (fun _ => ?_)
    obtain rfl := Option.some.inj hf
    exact s_iret C kc hr hlk rfl rfl dX5_letter_10


theorem hd_X5_cell : yX5_cell.cls = RX5 ∧ yX5_cell.cls ≠ "java/lang/invoke/MethodHandle" ∧ yX5_cell.cls ≠ "java/lang/invoke/VarHandle" ∧ (parseMethodDescriptor yX5_cell.desc).map (fun d => d.parameters.length) = some 2 := by decide +kernel
set_option maxHeartbeats 4000000 in
set_option maxRecDepth 100000 in
theorem c_X5_cell (l : Launch) (D : va_G) (cI : ClassId) (adK adV : Nat → Nat) (ad : Nat → Nat) (kc : Nat → Nat) (tolds : Int32) (hasImage : Int32) (n_heirs : Int32) (n_left : Int32) (n_bitten : Int32) (n_kinds : (Nat → Int32)) (n_figures : (Nat → Int32)) (k_heirs : Int32) (k_left : Int32) (k_bitten : Int32) (k_kinds : (Nat → Int32)) (k_figures : (Nat → Int32)) (t_heirs : Int32) (t_left : Int32) (t_bitten : Int32) (t_kinds : (Nat → Int32)) (t_figures : (Nat → Int32)) (r_gone : Int32) (r_heaps : Int32) (r_fewestCells : Int32) (r_deed : Int32) (c_ways : (Nat → Int32)) (c_fewest : (Nat → Int32)) (c_nextWays : (Nat → Int32)) (c_nextFewest : (Nat → Int32)) (x_length : Int32) (x_letters : (Nat → Int32)) (told : (Nat → Int32)) (refusals : (Nat → Int32)) (ends : (Nat → Int32)) (a1 : Int32) (a2 : Int32) (o : Int32 × (Nat → Int32)) (hf : f_X5_cell n_left refusals a1 a2 = some o) : Ct l D cI adK adV yX5_cell (wy yX5_cell cX5_cell 4 (some .int)) { frames := 2, cells := 0, slots := 0, locals := 45 } 0 0 [.ref (ad 0), .int a1, .int a2] (wX ad kc cI tolds hasImage n_heirs n_left n_bitten n_kinds n_figures k_heirs k_left k_bitten k_kinds k_figures t_heirs t_left t_bitten t_kinds t_figures r_gone r_heaps r_fewestCells r_deed c_ways c_fewest c_nextWays c_nextFewest x_length x_letters told refusals ends) (fun _ => (wX ad kc cI tolds hasImage n_heirs n_left n_bitten n_kinds n_figures k_heirs k_left k_bitten k_kinds k_figures t_heirs t_left t_bitten t_kinds t_figures r_gone r_heaps r_fewestCells r_deed c_ways c_fewest c_nextWays c_nextFewest x_length x_letters told o.2 ends)) (some (.int o.1)) := by
  refine Ct.of (cc := cX5_cell) (nL := 4) (ret := (some .int)) (own := RX5) (by decide) (Nat.le_of_ble_eq_true rfl) rfl ?_
  intro p e s m args below meth c A C hr hlk hnm
  refine s_lv (lv1 := [(0, .ref (ad 0)), (1, .int a1), (2, .int a2)]) [0, 1, 2] rfl ?_
  unfold f_X5_cell at hf
  refine s_iload_n C 1 1 rfl dX5_cell_0 rfl ?_
  obtain ⟨r1, q2, hf⟩ := bn_s hf
  refine s_callS0 (host := "") (rest := []) C 4 (c_X5_isCell l D cI adK adV a1 r1 q2) (gS uu474 uu432 uu1 uu433) hd_X5_isCell rfl ⟨rfl, rfl⟩ ⟨Nat.le_of_ble_eq_true rfl, Nat.le_of_ble_eq_true rfl⟩ ⟨Nat.le_of_ble_eq_true rfl, Nat.le_of_ble_eq_true rfl⟩ rfl (Nat.le_of_ble_eq_true rfl) rfl dX5_cell_1 ?_
  refine s_if_ne C 13 7 rfl dX5_cell_4 rfl (fun hc22 => ?_) (fun hc22 => ?_)
  · replace hf := ite_f hc22 hf
    refine s_iload_n C 14 2 rfl dX5_cell_13 rfl ?_
    refine s_if_lt C 22 17 rfl dX5_cell_14 rfl (fun hc19 => ?_) (fun hc19 => ?_)
    · replace hf := ite_t hc19 hf
      refine s_aload_n C 23 0 rfl dX5_cell_22 rfl ?_
      refine s_bipush C 25 rfl dX5_cell_23 bp_m2 ?_
      obtain ⟨r3, q4, hf⟩ := bn_s hf
      refine s_callW (T := TX5) (N := 11) (ci := 4) (q0 := 0) (rest := []) C 28 (c_X5_refused l D cI adK adV ad kc tolds hasImage n_heirs n_left n_bitten n_kinds n_figures k_heirs k_left k_bitten k_kinds k_figures t_heirs t_left t_bitten t_kinds t_figures r_gone r_heaps r_fewestCells r_deed c_ways c_fewest c_nextWays c_nextFewest x_length x_letters told refusals ends (-2 : Int32) r3 q4) (gV uu169 uu171 uu1541 uu1 uu172) hd_X5_refused rfl ⟨rfl, rfl⟩ ⟨Nat.le_of_ble_eq_true rfl, Nat.le_of_ble_eq_true rfl⟩ ⟨Nat.le_of_ble_eq_true rfl, Nat.le_of_ble_eq_true rfl⟩ rfl rfl rfl (Nat.le_of_ble_eq_true rfl) rfl dX5_cell_25 (fun _ => ?_)
      obtain rfl := Option.some.inj hf
      exact s_iret C kc hr hlk rfl rfl dX5_cell_28
    · replace hf := ite_f hc19 hf
      refine s_iload_n C 18 2 rfl dX5_cell_17 rfl ?_
      refine s_iconst C 19 rfl dX5_cell_18 ic_2 ?_
      refine s_icmp_le C 29 22 rfl dX5_cell_19 rfl (fun hc18 => ?_) (fun hc18 => ?_)
      · replace hf := ite_t hc18 hf
        refine s_iconst C 30 rfl dX5_cell_29 ic_1 ?_
        refine s_iload_n C 31 1 rfl dX5_cell_30 rfl ?_
        refine s_ishl C 32 rfl dX5_cell_31 ?_
        refine s_istore_n (lv1 := [(3, .int (jshl (1 : Int32) a1)), (0, .ref (ad 0)), (1, .int a1), (2, .int a2)]) C 33 3 rfl dX5_cell_32 rfl (Nat.le_of_ble_eq_true rfl) rfl ?_
        refine s_iload_n C 34 3 rfl dX5_cell_33 rfl ?_
        refine s_if_ne C 55 37 rfl dX5_cell_34 rfl (fun hc15 => ?_) (fun hc15 => ?_)
        · replace hf := ite_f hc15 hf
          refine s_iload_n C 56 3 rfl dX5_cell_55 rfl ?_
          refine s_iconst C 57 rfl dX5_cell_56 ic_1 ?_
          refine s_icmp_ne C 76 60 rfl dX5_cell_57 rfl (fun hc13 => ?_) (fun hc13 => ?_)
          · replace hf := ite_f hc13 hf
            refine s_iload_n C 77 0 rfl dX5_cell_76 rfl ?_
            refine s_aload_n C 78 1 rfl dX5_cell_77 rfl ?_
            refine s_get (C1 := RX5) (T := TX5) (N := 11) (ci := 4) C 81 0 0 uX5 rfl rfl (Nat.le_of_ble_eq_true rfl) uu130 rfl rfl rfl dX5_cell_78 ?_
            refine s_get (C1 := RX0) (T := TX0) (N := 5) (ci := 0) C 84 1 3 uX0 rfl rfl (Nat.le_of_ble_eq_true rfl) uu53 rfl rfl rfl dX5_cell_81 ?_
            obtain ⟨r5, q6, hf⟩ := bn_s hf
            refine s_callS0 (host := "") (rest := []) C 87 (c_X2_heapOf l D cI adK adV (jshl (1 : Int32) a1) n_left r5 q6) (gS uu498 uu500 uu14 uu501) hd_X2_heapOf rfl ⟨rfl, rfl⟩ ⟨Nat.le_of_ble_eq_true rfl, Nat.le_of_ble_eq_true rfl⟩ ⟨Nat.le_of_ble_eq_true rfl, Nat.le_of_ble_eq_true rfl⟩ rfl (Nat.le_of_ble_eq_true rfl) rfl dX5_cell_84 ?_
            obtain ⟨r7, q8, hf⟩ := bn_s hf
            refine s_callS0 (host := "") (rest := []) C 90 (c_J6_bitCount_0f7a4 l D cI adK adV r5 r7 q8) (gS uu487 uu489 uu15 uu490) hd_J6_bitCount_0f7a4 rfl ⟨rfl, rfl⟩ ⟨Nat.le_of_ble_eq_true rfl, Nat.le_of_ble_eq_true rfl⟩ ⟨Nat.le_of_ble_eq_true rfl, Nat.le_of_ble_eq_true rfl⟩ rfl (Nat.le_of_ble_eq_true rfl) rfl dX5_cell_87 ?_
            obtain rfl := Option.some.inj hf
            exact s_iret C kc hr hlk rfl rfl dX5_cell_90
          · replace hf := ite_t hc13 hf
            refine s_iload_n C 61 0 rfl dX5_cell_60 rfl ?_
            obtain ⟨r9, q10, hf⟩ := bn_s hf
            refine s_callS0 (host := "") (rest := []) C 64 (c_X2_besides l D cI adK adV (jshl (1 : Int32) a1) r9 q10) (gS uu476 uu478 uu14 uu479) hd_X2_besides rfl ⟨rfl, rfl⟩ ⟨Nat.le_of_ble_eq_true rfl, Nat.le_of_ble_eq_true rfl⟩ ⟨Nat.le_of_ble_eq_true rfl, Nat.le_of_ble_eq_true rfl⟩ rfl (Nat.le_of_ble_eq_true rfl) rfl dX5_cell_61 ?_
            refine s_aload_n C 65 1 rfl dX5_cell_64 rfl ?_
            refine s_get (C1 := RX5) (T := TX5) (N := 11) (ci := 4) C 68 0 0 uX5 rfl rfl (Nat.le_of_ble_eq_true rfl) uu130 rfl rfl rfl dX5_cell_65 ?_
            refine s_get (C1 := RX0) (T := TX0) (N := 5) (ci := 0) C 71 1 3 uX0 rfl rfl (Nat.le_of_ble_eq_true rfl) uu53 rfl rfl rfl dX5_cell_68 ?_
            refine s_iand C 72 rfl dX5_cell_71 ?_
            obtain ⟨r11, q12, hf⟩ := bn_s hf
            refine s_callS0 (host := "") (rest := []) C 75 (c_J6_bitCount_0f7a4 l D cI adK adV (r9 &&& n_left) r11 q12) (gS uu487 uu489 uu15 uu490) hd_J6_bitCount_0f7a4 rfl ⟨rfl, rfl⟩ ⟨Nat.le_of_ble_eq_true rfl, Nat.le_of_ble_eq_true rfl⟩ ⟨Nat.le_of_ble_eq_true rfl, Nat.le_of_ble_eq_true rfl⟩ rfl (Nat.le_of_ble_eq_true rfl) rfl dX5_cell_72 ?_
            obtain rfl := Option.some.inj hf
            exact s_iret C kc hr hlk rfl rfl dX5_cell_75
        · replace hf := ite_t hc15 hf
          refine s_aload_n C 38 1 rfl dX5_cell_37 rfl ?_
          refine s_get (C1 := RX5) (T := TX5) (N := 11) (ci := 4) C 41 0 0 uX5 rfl rfl (Nat.le_of_ble_eq_true rfl) uu130 rfl rfl rfl dX5_cell_38 ?_
          refine s_get (C1 := RX0) (T := TX0) (N := 5) (ci := 0) C 44 1 3 uX0 rfl rfl (Nat.le_of_ble_eq_true rfl) uu53 rfl rfl rfl dX5_cell_41 ?_
          refine s_iload_n C 45 0 rfl dX5_cell_44 rfl ?_
          refine s_iand C 46 rfl dX5_cell_45 ?_
          refine s_if_eq C 53 49 rfl dX5_cell_46 rfl (fun hc14 => ?_) (fun hc14 => ?_)
          · replace hf := ite_t hc14 hf
            refine s_iconst C 54 rfl dX5_cell_53 ic_0 ?_
            obtain rfl := Option.some.inj hf
            exact s_iret C kc hr hlk rfl rfl dX5_cell_54
          · replace hf := ite_f hc14 hf
            refine s_iconst C 50 rfl dX5_cell_49 ic_1 ?_
            refine s_goto C 54 dX5_cell_50 rfl ?_
            obtain rfl := Option.some.inj hf
            exact s_iret C kc hr hlk rfl rfl dX5_cell_54
      · replace hf := ite_f hc18 hf
        refine s_aload_n C 23 0 rfl dX5_cell_22 rfl ?_
        refine s_bipush C 25 rfl dX5_cell_23 bp_m2 ?_
        obtain ⟨r16, q17, hf⟩ := bn_s hf
        refine s_callW (T := TX5) (N := 11) (ci := 4) (q0 := 0) (rest := []) C 28 (c_X5_refused l D cI adK adV ad kc tolds hasImage n_heirs n_left n_bitten n_kinds n_figures k_heirs k_left k_bitten k_kinds k_figures t_heirs t_left t_bitten t_kinds t_figures r_gone r_heaps r_fewestCells r_deed c_ways c_fewest c_nextWays c_nextFewest x_length x_letters told refusals ends (-2 : Int32) r16 q17) (gV uu169 uu171 uu1541 uu1 uu172) hd_X5_refused rfl ⟨rfl, rfl⟩ ⟨Nat.le_of_ble_eq_true rfl, Nat.le_of_ble_eq_true rfl⟩ ⟨Nat.le_of_ble_eq_true rfl, Nat.le_of_ble_eq_true rfl⟩ rfl rfl rfl (Nat.le_of_ble_eq_true rfl) rfl dX5_cell_25 (fun _ => ?_)
        obtain rfl := Option.some.inj hf
        exact s_iret C kc hr hlk rfl rfl dX5_cell_28
  · replace hf := ite_t hc22 hf
    refine s_aload_n C 8 0 rfl dX5_cell_7 rfl ?_
    refine s_iconst C 9 rfl dX5_cell_8 ic_m1 ?_
    obtain ⟨r20, q21, hf⟩ := bn_s hf
    refine s_callW (T := TX5) (N := 11) (ci := 4) (q0 := 0) (rest := []) C 12 (c_X5_refused l D cI adK adV ad kc tolds hasImage n_heirs n_left n_bitten n_kinds n_figures k_heirs k_left k_bitten k_kinds k_figures t_heirs t_left t_bitten t_kinds t_figures r_gone r_heaps r_fewestCells r_deed c_ways c_fewest c_nextWays c_nextFewest x_length x_letters told refusals ends (-1 : Int32) r20 q21) (gV uu169 uu171 uu1541 uu1 uu172) hd_X5_refused rfl ⟨rfl, rfl⟩ ⟨Nat.le_of_ble_eq_true rfl, Nat.le_of_ble_eq_true rfl⟩ ⟨Nat.le_of_ble_eq_true rfl, Nat.le_of_ble_eq_true rfl⟩ rfl rfl rfl (Nat.le_of_ble_eq_true rfl) rfl dX5_cell_9 (fun _ => ?_)
    obtain rfl := Option.some.inj hf
    exact s_iret C kc hr hlk rfl rfl dX5_cell_12


theorem hd_X5_heals : yX5_heals.cls = RX5 ∧ yX5_heals.cls ≠ "java/lang/invoke/MethodHandle" ∧ yX5_heals.cls ≠ "java/lang/invoke/VarHandle" ∧ (parseMethodDescriptor yX5_heals.desc).map (fun d => d.parameters.length) = some 1 := by decide +kernel
set_option maxHeartbeats 4000000 in
set_option maxRecDepth 100000 in
theorem c_X5_heals (l : Launch) (D : va_G) (cI : ClassId) (adK adV : Nat → Nat) (ad : Nat → Nat) (kc : Nat → Nat) (tolds : Int32) (hasImage : Int32) (n_heirs : Int32) (n_left : Int32) (n_bitten : Int32) (n_kinds : (Nat → Int32)) (n_figures : (Nat → Int32)) (k_heirs : Int32) (k_left : Int32) (k_bitten : Int32) (k_kinds : (Nat → Int32)) (k_figures : (Nat → Int32)) (t_heirs : Int32) (t_left : Int32) (t_bitten : Int32) (t_kinds : (Nat → Int32)) (t_figures : (Nat → Int32)) (r_gone : Int32) (r_heaps : Int32) (r_fewestCells : Int32) (r_deed : Int32) (c_ways : (Nat → Int32)) (c_fewest : (Nat → Int32)) (c_nextWays : (Nat → Int32)) (c_nextFewest : (Nat → Int32)) (x_length : Int32) (x_letters : (Nat → Int32)) (told : (Nat → Int32)) (refusals : (Nat → Int32)) (ends : (Nat → Int32)) (a1 : Int32) (o : Int32 × Int32 × (Nat → Int32)) (hf : f_X5_heals n_left refusals a1 = some o) : Ct l D cI adK adV yX5_heals (wy yX5_heals cX5_heals 2 (some .int)) { frames := 2, cells := 0, slots := 0, locals := 41 } 0 0 [.ref (ad 0), .int a1] (wX ad kc cI tolds hasImage n_heirs n_left n_bitten n_kinds n_figures k_heirs k_left k_bitten k_kinds k_figures t_heirs t_left t_bitten t_kinds t_figures r_gone r_heaps r_fewestCells r_deed c_ways c_fewest c_nextWays c_nextFewest x_length x_letters told refusals ends) (fun _ => (wX ad kc cI tolds hasImage n_heirs o.2.1 n_bitten n_kinds n_figures k_heirs k_left k_bitten k_kinds k_figures t_heirs t_left t_bitten t_kinds t_figures r_gone r_heaps r_fewestCells r_deed c_ways c_fewest c_nextWays c_nextFewest x_length x_letters told o.2.2 ends)) (some (.int o.1)) := by
  refine Ct.of (cc := cX5_heals) (nL := 2) (ret := (some .int)) (own := RX5) (by decide) (Nat.le_of_ble_eq_true rfl) rfl ?_
  intro p e s m args below meth c A C hr hlk hnm
  refine s_lv (lv1 := [(0, .ref (ad 0)), (1, .int a1)]) [0, 1] rfl ?_
  unfold f_X5_heals at hf
  refine s_iload_n C 1 1 rfl dX5_heals_0 rfl ?_
  obtain ⟨r1, q2, hf⟩ := bn_s hf
  refine s_callS0 (host := "") (rest := []) C 4 (c_X5_isCell l D cI adK adV a1 r1 q2) (gS uu474 uu432 uu1 uu433) hd_X5_isCell rfl ⟨rfl, rfl⟩ ⟨Nat.le_of_ble_eq_true rfl, Nat.le_of_ble_eq_true rfl⟩ ⟨Nat.le_of_ble_eq_true rfl, Nat.le_of_ble_eq_true rfl⟩ rfl (Nat.le_of_ble_eq_true rfl) rfl dX5_heals_1 ?_
  refine s_if_ne C 13 7 rfl dX5_heals_4 rfl (fun hc14 => ?_) (fun hc14 => ?_)
  · replace hf := ite_f hc14 hf
    refine s_aload_n C 14 0 rfl dX5_heals_13 rfl ?_
    refine s_iload_n C 15 1 rfl dX5_heals_14 rfl ?_
    obtain ⟨r3, q4, hf⟩ := bn_s hf
    refine s_callW (T := TX5) (N := 11) (ci := 4) (q0 := 0) (rest := []) C 18 (c_X5_isLeft l D cI adK adV ad kc tolds hasImage n_heirs n_left n_bitten n_kinds n_figures k_heirs k_left k_bitten k_kinds k_figures t_heirs t_left t_bitten t_kinds t_figures r_gone r_heaps r_fewestCells r_deed c_ways c_fewest c_nextWays c_nextFewest x_length x_letters told refusals ends a1 r3 q4) (gV uu566 uu568 uu1550 uu1 uu569) hd_X5_isLeft rfl ⟨rfl, rfl⟩ ⟨Nat.le_of_ble_eq_true rfl, Nat.le_of_ble_eq_true rfl⟩ ⟨Nat.le_of_ble_eq_true rfl, Nat.le_of_ble_eq_true rfl⟩ rfl rfl rfl (Nat.le_of_ble_eq_true rfl) rfl dX5_heals_15 (fun _ => ?_)
    refine s_if_eq C 28 21 rfl dX5_heals_18 rfl (fun hc11 => ?_) (fun hc11 => ?_)
    · replace hf := ite_t hc11 hf
      refine s_aload_n C 29 0 rfl dX5_heals_28 rfl ?_
      refine s_get (C1 := RX5) (T := TX5) (N := 11) (ci := 4) C 32 0 0 uX5 rfl rfl (Nat.le_of_ble_eq_true rfl) uu130 rfl rfl rfl dX5_heals_29 ?_
      refine s_iload_n C 33 1 rfl dX5_heals_32 rfl ?_
      obtain ⟨r5, q6, hf⟩ := bn_s hf
      refine s_callV (T := TX0) (N := 5) (ci := 0) (q0 := 1) (rest := []) (wr := [((ad 0), .inr (4, [.ref (ad 1), .ref (ad 4), .ref (ad 7), .ref (ad 10), .ref (ad 11), .ref (ad 12), .ref (ad 14), .ref (ad 15), .ref (ad 16), .int tolds, .int hasImage])), ((ad 4), .inr (0, [.ref (ad 5), .ref (ad 6), .int k_heirs, .int k_left, .int k_bitten])), ((ad 5), .inl (cI, 5, .inl k_kinds)), ((ad 6), .inl (cI, 5, .inl k_figures)), ((ad 7), .inr (0, [.ref (ad 8), .ref (ad 9), .int t_heirs, .int t_left, .int t_bitten])), ((ad 8), .inl (cI, 5, .inl t_kinds)), ((ad 9), .inl (cI, 5, .inl t_figures)), ((ad 10), .inr (2, [.int r_gone, .int r_heaps, .int r_fewestCells, .int r_deed])), ((ad 11), .inr (1, [.ref (kc 0), .ref (kc 1), .ref (kc 2), .ref (kc 3)])), ((kc 0), .inl (cI, 64, .inl c_ways)), ((kc 1), .inl (cI, 64, .inl c_fewest)), ((kc 2), .inl (cI, 64, .inl c_nextWays)), ((kc 3), .inl (cI, 64, .inl c_nextFewest)), ((ad 12), .inr (3, [.ref (ad 13), .int x_length])), ((ad 13), .inl (cI, 96, .inl x_letters)), ((ad 14), .inl (cI, 16, .inl told)), ((ad 15), .inl (cI, 7, .inl refusals)), ((ad 16), .inl (cI, 4, .inl ends))]) (ws2 := fun _ => (wX ad kc cI tolds hasImage n_heirs r5.2 n_bitten n_kinds n_figures k_heirs k_left k_bitten k_kinds k_figures t_heirs t_left t_bitten t_kinds t_figures r_gone r_heaps r_fewestCells r_deed c_ways c_fewest c_nextWays c_nextFewest x_length x_letters told refusals ends)) C 36 (c_X0_mends l D cI adK adV (ad 1) (ad 2) (ad 3) n_heirs n_left n_bitten n_kinds n_figures a1 r5 q6) (gV uu571 uu439 uu440 uu2 uu441) hd_X0_mends rfl ⟨rfl, rfl⟩ ⟨Nat.le_of_ble_eq_true rfl, Nat.le_of_ble_eq_true rfl⟩ ⟨Nat.le_of_ble_eq_true rfl, Nat.le_of_ble_eq_true rfl⟩ rfl rfl rfl (Nat.le_of_ble_eq_true rfl) [1, 2, 3] [0, 4, 5, 6, 7, 8, 9, 10, 11, 12, 13, 14, 15, 16, 17, 18, 19, 20] [0, 18, 19, 20, 1, 2, 3, 4, 5, 6, 7, 8, 9, 10, 11, 12, 13, 14, 15, 16, 17] rfl rfl rfl rfl (by decide) rfl (fun _ => rfl) (fun _ => rfl) rfl dX5_heals_33 (fun _ => ?_)
      refine s_pop C 37 rfl dX5_heals_36 rfl ?_
      refine s_aload_n C 38 0 rfl dX5_heals_37 rfl ?_
      refine s_get (C1 := RX5) (T := TX5) (N := 11) (ci := 4) C 41 0 0 uX5 rfl rfl (Nat.le_of_ble_eq_true rfl) uu130 rfl rfl rfl dX5_heals_38 ?_
      refine s_get (C1 := RX0) (T := TX0) (N := 5) (ci := 0) C 44 1 3 uX0 rfl rfl (Nat.le_of_ble_eq_true rfl) uu53 rfl rfl rfl dX5_heals_41 ?_
      obtain ⟨r7, q8, hf⟩ := bn_s hf
      refine s_callS0 (host := "") (rest := []) C 47 (c_J6_bitCount_0f7a4 l D cI adK adV r5.2 r7 q8) (gS uu487 uu489 uu15 uu490) hd_J6_bitCount_0f7a4 rfl ⟨rfl, rfl⟩ ⟨Nat.le_of_ble_eq_true rfl, Nat.le_of_ble_eq_true rfl⟩ ⟨Nat.le_of_ble_eq_true rfl, Nat.le_of_ble_eq_true rfl⟩ rfl (Nat.le_of_ble_eq_true rfl) rfl dX5_heals_44 ?_
      obtain rfl := Option.some.inj hf
      exact s_iret C kc hr hlk rfl rfl dX5_heals_47
    · replace hf := ite_f hc11 hf
      refine s_aload_n C 22 0 rfl dX5_heals_21 rfl ?_
      refine s_bipush C 24 rfl dX5_heals_22 bp_m3 ?_
      obtain ⟨r9, q10, hf⟩ := bn_s hf
      refine s_callW (T := TX5) (N := 11) (ci := 4) (q0 := 0) (rest := []) C 27 (c_X5_refused l D cI adK adV ad kc tolds hasImage n_heirs n_left n_bitten n_kinds n_figures k_heirs k_left k_bitten k_kinds k_figures t_heirs t_left t_bitten t_kinds t_figures r_gone r_heaps r_fewestCells r_deed c_ways c_fewest c_nextWays c_nextFewest x_length x_letters told refusals ends (-3 : Int32) r9 q10) (gV uu169 uu171 uu1541 uu1 uu172) hd_X5_refused rfl ⟨rfl, rfl⟩ ⟨Nat.le_of_ble_eq_true rfl, Nat.le_of_ble_eq_true rfl⟩ ⟨Nat.le_of_ble_eq_true rfl, Nat.le_of_ble_eq_true rfl⟩ rfl rfl rfl (Nat.le_of_ble_eq_true rfl) rfl dX5_heals_24 (fun _ => ?_)
      obtain rfl := Option.some.inj hf
      exact s_iret C kc hr hlk rfl rfl dX5_heals_27
  · replace hf := ite_t hc14 hf
    refine s_aload_n C 8 0 rfl dX5_heals_7 rfl ?_
    refine s_iconst C 9 rfl dX5_heals_8 ic_m1 ?_
    obtain ⟨r12, q13, hf⟩ := bn_s hf
    refine s_callW (T := TX5) (N := 11) (ci := 4) (q0 := 0) (rest := []) C 12 (c_X5_refused l D cI adK adV ad kc tolds hasImage n_heirs n_left n_bitten n_kinds n_figures k_heirs k_left k_bitten k_kinds k_figures t_heirs t_left t_bitten t_kinds t_figures r_gone r_heaps r_fewestCells r_deed c_ways c_fewest c_nextWays c_nextFewest x_length x_letters told refusals ends (-1 : Int32) r12 q13) (gV uu169 uu171 uu1541 uu1 uu172) hd_X5_refused rfl ⟨rfl, rfl⟩ ⟨Nat.le_of_ble_eq_true rfl, Nat.le_of_ble_eq_true rfl⟩ ⟨Nat.le_of_ble_eq_true rfl, Nat.le_of_ble_eq_true rfl⟩ rfl rfl rfl (Nat.le_of_ble_eq_true rfl) rfl dX5_heals_9 (fun _ => ?_)
    obtain rfl := Option.some.inj hf
    exact s_iret C kc hr hlk rfl rfl dX5_heals_12


theorem hd_X5_rolls : yX5_rolls.cls = RX5 ∧ yX5_rolls.cls ≠ "java/lang/invoke/MethodHandle" ∧ yX5_rolls.cls ≠ "java/lang/invoke/VarHandle" ∧ (parseMethodDescriptor yX5_rolls.desc).map (fun d => d.parameters.length) = some 1 := by decide +kernel
set_option maxHeartbeats 4000000 in
set_option maxRecDepth 100000 in
theorem c_X5_rolls (l : Launch) (D : va_G) (cI : ClassId) (adK adV : Nat → Nat) (ad : Nat → Nat) (kc : Nat → Nat) (tolds : Int32) (hasImage : Int32) (n_heirs : Int32) (n_left : Int32) (n_bitten : Int32) (n_kinds : (Nat → Int32)) (n_figures : (Nat → Int32)) (k_heirs : Int32) (k_left : Int32) (k_bitten : Int32) (k_kinds : (Nat → Int32)) (k_figures : (Nat → Int32)) (t_heirs : Int32) (t_left : Int32) (t_bitten : Int32) (t_kinds : (Nat → Int32)) (t_figures : (Nat → Int32)) (r_gone : Int32) (r_heaps : Int32) (r_fewestCells : Int32) (r_deed : Int32) (c_ways : (Nat → Int32)) (c_fewest : (Nat → Int32)) (c_nextWays : (Nat → Int32)) (c_nextFewest : (Nat → Int32)) (x_length : Int32) (x_letters : (Nat → Int32)) (told : (Nat → Int32)) (refusals : (Nat → Int32)) (ends : (Nat → Int32)) (a1 : Int32) (o : Int32 × Int32 × (Nat → Int32)) (hf : f_X5_rolls n_left refusals a1 = some o) : Ct l D cI adK adV yX5_rolls (wy yX5_rolls cX5_rolls 2 (some .int)) { frames := 2, cells := 0, slots := 0, locals := 45 } 0 0 [.ref (ad 0), .int a1] (wX ad kc cI tolds hasImage n_heirs n_left n_bitten n_kinds n_figures k_heirs k_left k_bitten k_kinds k_figures t_heirs t_left t_bitten t_kinds t_figures r_gone r_heaps r_fewestCells r_deed c_ways c_fewest c_nextWays c_nextFewest x_length x_letters told refusals ends) (fun _ => (wX ad kc cI tolds hasImage n_heirs o.2.1 n_bitten n_kinds n_figures k_heirs k_left k_bitten k_kinds k_figures t_heirs t_left t_bitten t_kinds t_figures r_gone r_heaps r_fewestCells r_deed c_ways c_fewest c_nextWays c_nextFewest x_length x_letters told o.2.2 ends)) (some (.int o.1)) := by
  refine Ct.of (cc := cX5_rolls) (nL := 2) (ret := (some .int)) (own := RX5) (by decide) (Nat.le_of_ble_eq_true rfl) rfl ?_
  intro p e s m args below meth c A C hr hlk hnm
  refine s_lv (lv1 := [(0, .ref (ad 0)), (1, .int a1)]) [0, 1] rfl ?_
  unfold f_X5_rolls at hf
  refine s_iload_n C 1 1 rfl dX5_rolls_0 rfl ?_
  refine s_iconst C 2 rfl dX5_rolls_1 ic_1 ?_
  refine s_icmp_ge C 12 5 rfl dX5_rolls_2 rfl (fun hc10 => ?_) (fun hc10 => ?_)
  · replace hf := ite_t hc10 hf
    refine s_iload_n C 13 1 rfl dX5_rolls_12 rfl ?_
    refine s_iconst C 14 rfl dX5_rolls_13 ic_3 ?_
    refine s_icmp_le C 24 17 rfl dX5_rolls_14 rfl (fun hc7 => ?_) (fun hc7 => ?_)
    · replace hf := ite_t hc7 hf
      refine s_aload_n C 25 0 rfl dX5_rolls_24 rfl ?_
      refine s_get (C1 := RX5) (T := TX5) (N := 11) (ci := 4) C 28 0 0 uX5 rfl rfl (Nat.le_of_ble_eq_true rfl) uu130 rfl rfl rfl dX5_rolls_25 ?_
      refine s_iload_n C 29 1 rfl dX5_rolls_28 rfl ?_
      obtain ⟨r1, q2, hf⟩ := bn_s hf
      refine s_callV (T := TX0) (N := 5) (ci := 0) (q0 := 1) (rest := []) (wr := [((ad 0), .inr (4, [.ref (ad 1), .ref (ad 4), .ref (ad 7), .ref (ad 10), .ref (ad 11), .ref (ad 12), .ref (ad 14), .ref (ad 15), .ref (ad 16), .int tolds, .int hasImage])), ((ad 4), .inr (0, [.ref (ad 5), .ref (ad 6), .int k_heirs, .int k_left, .int k_bitten])), ((ad 5), .inl (cI, 5, .inl k_kinds)), ((ad 6), .inl (cI, 5, .inl k_figures)), ((ad 7), .inr (0, [.ref (ad 8), .ref (ad 9), .int t_heirs, .int t_left, .int t_bitten])), ((ad 8), .inl (cI, 5, .inl t_kinds)), ((ad 9), .inl (cI, 5, .inl t_figures)), ((ad 10), .inr (2, [.int r_gone, .int r_heaps, .int r_fewestCells, .int r_deed])), ((ad 11), .inr (1, [.ref (kc 0), .ref (kc 1), .ref (kc 2), .ref (kc 3)])), ((kc 0), .inl (cI, 64, .inl c_ways)), ((kc 1), .inl (cI, 64, .inl c_fewest)), ((kc 2), .inl (cI, 64, .inl c_nextWays)), ((kc 3), .inl (cI, 64, .inl c_nextFewest)), ((ad 12), .inr (3, [.ref (ad 13), .int x_length])), ((ad 13), .inl (cI, 96, .inl x_letters)), ((ad 14), .inl (cI, 16, .inl told)), ((ad 15), .inl (cI, 7, .inl refusals)), ((ad 16), .inl (cI, 4, .inl ends))]) (ws2 := fun _ => (wX ad kc cI tolds hasImage n_heirs r1.2 n_bitten n_kinds n_figures k_heirs k_left k_bitten k_kinds k_figures t_heirs t_left t_bitten t_kinds t_figures r_gone r_heaps r_fewestCells r_deed c_ways c_fewest c_nextWays c_nextFewest x_length x_letters told refusals ends)) C 32 (c_X0_turnsBy l D cI adK adV (ad 1) (ad 2) (ad 3) n_heirs n_left n_bitten n_kinds n_figures a1 r1 q2) (gV uu579 uu446 uu447 uu2 uu448) hd_X0_turnsBy rfl ⟨rfl, rfl⟩ ⟨Nat.le_of_ble_eq_true rfl, Nat.le_of_ble_eq_true rfl⟩ ⟨Nat.le_of_ble_eq_true rfl, Nat.le_of_ble_eq_true rfl⟩ rfl rfl rfl (Nat.le_of_ble_eq_true rfl) [1, 2, 3] [0, 4, 5, 6, 7, 8, 9, 10, 11, 12, 13, 14, 15, 16, 17, 18, 19, 20] [0, 18, 19, 20, 1, 2, 3, 4, 5, 6, 7, 8, 9, 10, 11, 12, 13, 14, 15, 16, 17] rfl rfl rfl rfl (by decide) rfl (fun _ => rfl) (fun _ => rfl) rfl dX5_rolls_29 (fun _ => ?_)
      refine s_pop C 33 rfl dX5_rolls_32 rfl ?_
      refine s_aload_n C 34 0 rfl dX5_rolls_33 rfl ?_
      refine s_get (C1 := RX5) (T := TX5) (N := 11) (ci := 4) C 37 0 0 uX5 rfl rfl (Nat.le_of_ble_eq_true rfl) uu130 rfl rfl rfl dX5_rolls_34 ?_
      refine s_get (C1 := RX0) (T := TX0) (N := 5) (ci := 0) C 40 1 3 uX0 rfl rfl (Nat.le_of_ble_eq_true rfl) uu53 rfl rfl rfl dX5_rolls_37 ?_
      obtain ⟨r3, q4, hf⟩ := bn_s hf
      refine s_callS0 (host := "") (rest := []) C 43 (c_J6_bitCount_0f7a4 l D cI adK adV r1.2 r3 q4) (gS uu487 uu489 uu15 uu490) hd_J6_bitCount_0f7a4 rfl ⟨rfl, rfl⟩ ⟨Nat.le_of_ble_eq_true rfl, Nat.le_of_ble_eq_true rfl⟩ ⟨Nat.le_of_ble_eq_true rfl, Nat.le_of_ble_eq_true rfl⟩ rfl (Nat.le_of_ble_eq_true rfl) rfl dX5_rolls_40 ?_
      obtain rfl := Option.some.inj hf
      exact s_iret C kc hr hlk rfl rfl dX5_rolls_43
    · replace hf := ite_f hc7 hf
      refine s_aload_n C 18 0 rfl dX5_rolls_17 rfl ?_
      refine s_bipush C 20 rfl dX5_rolls_18 bp_m6 ?_
      obtain ⟨r5, q6, hf⟩ := bn_s hf
      refine s_callW (T := TX5) (N := 11) (ci := 4) (q0 := 0) (rest := []) C 23 (c_X5_refused l D cI adK adV ad kc tolds hasImage n_heirs n_left n_bitten n_kinds n_figures k_heirs k_left k_bitten k_kinds k_figures t_heirs t_left t_bitten t_kinds t_figures r_gone r_heaps r_fewestCells r_deed c_ways c_fewest c_nextWays c_nextFewest x_length x_letters told refusals ends (-6 : Int32) r5 q6) (gV uu169 uu171 uu1541 uu1 uu172) hd_X5_refused rfl ⟨rfl, rfl⟩ ⟨Nat.le_of_ble_eq_true rfl, Nat.le_of_ble_eq_true rfl⟩ ⟨Nat.le_of_ble_eq_true rfl, Nat.le_of_ble_eq_true rfl⟩ rfl rfl rfl (Nat.le_of_ble_eq_true rfl) rfl dX5_rolls_20 (fun _ => ?_)
      obtain rfl := Option.some.inj hf
      exact s_iret C kc hr hlk rfl rfl dX5_rolls_23
  · replace hf := ite_f hc10 hf
    refine s_aload_n C 6 0 rfl dX5_rolls_5 rfl ?_
    refine s_bipush C 8 rfl dX5_rolls_6 bp_m4 ?_
    obtain ⟨r8, q9, hf⟩ := bn_s hf
    refine s_callW (T := TX5) (N := 11) (ci := 4) (q0 := 0) (rest := []) C 11 (c_X5_refused l D cI adK adV ad kc tolds hasImage n_heirs n_left n_bitten n_kinds n_figures k_heirs k_left k_bitten k_kinds k_figures t_heirs t_left t_bitten t_kinds t_figures r_gone r_heaps r_fewestCells r_deed c_ways c_fewest c_nextWays c_nextFewest x_length x_letters told refusals ends (-4 : Int32) r8 q9) (gV uu169 uu171 uu1541 uu1 uu172) hd_X5_refused rfl ⟨rfl, rfl⟩ ⟨Nat.le_of_ble_eq_true rfl, Nat.le_of_ble_eq_true rfl⟩ ⟨Nat.le_of_ble_eq_true rfl, Nat.le_of_ble_eq_true rfl⟩ rfl rfl rfl (Nat.le_of_ble_eq_true rfl) rfl dX5_rolls_8 (fun _ => ?_)
    obtain rfl := Option.some.inj hf
    exact s_iret C kc hr hlk rfl rfl dX5_rolls_11


theorem hd_X5_turn : yX5_turn.cls = RX5 ∧ yX5_turn.cls ≠ "java/lang/invoke/MethodHandle" ∧ yX5_turn.cls ≠ "java/lang/invoke/VarHandle" ∧ (parseMethodDescriptor yX5_turn.desc).map (fun d => d.parameters.length) = some 3 := by decide +kernel
set_option maxHeartbeats 4000000 in
set_option maxRecDepth 100000 in
theorem c_X5_turn (l : Launch) (D : va_G) (cI : ClassId) (adK adV : Nat → Nat) (ad : Nat → Nat) (kc : Nat → Nat) (tolds : Int32) (hasImage : Int32) (n_heirs : Int32) (n_left : Int32) (n_bitten : Int32) (n_kinds : (Nat → Int32)) (n_figures : (Nat → Int32)) (k_heirs : Int32) (k_left : Int32) (k_bitten : Int32) (k_kinds : (Nat → Int32)) (k_figures : (Nat → Int32)) (t_heirs : Int32) (t_left : Int32) (t_bitten : Int32) (t_kinds : (Nat → Int32)) (t_figures : (Nat → Int32)) (r_gone : Int32) (r_heaps : Int32) (r_fewestCells : Int32) (r_deed : Int32) (c_ways : (Nat → Int32)) (c_fewest : (Nat → Int32)) (c_nextWays : (Nat → Int32)) (c_nextFewest : (Nat → Int32)) (x_length : Int32) (x_letters : (Nat → Int32)) (told : (Nat → Int32)) (refusals : (Nat → Int32)) (ends : (Nat → Int32)) (a1 : Int32) (a2 : Int32) (a3 : Int32) (o : Int32 × (Nat → Int32) × (Nat → Int32) × (Nat → Int32)) (hf : f_X5_turn n_heirs n_kinds n_figures refusals a1 a2 a3 = some o) : Ct l D cI adK adV yX5_turn (wy yX5_turn cX5_turn 5 (some .int)) { frames := 1, cells := 0, slots := 0, locals := 21 } 0 0 [.ref (ad 0), .int a1, .int a2, .int a3] (wX ad kc cI tolds hasImage n_heirs n_left n_bitten n_kinds n_figures k_heirs k_left k_bitten k_kinds k_figures t_heirs t_left t_bitten t_kinds t_figures r_gone r_heaps r_fewestCells r_deed c_ways c_fewest c_nextWays c_nextFewest x_length x_letters told refusals ends) (fun _ => (wX ad kc cI tolds hasImage n_heirs n_left n_bitten o.2.1 o.2.2.1 k_heirs k_left k_bitten k_kinds k_figures t_heirs t_left t_bitten t_kinds t_figures r_gone r_heaps r_fewestCells r_deed c_ways c_fewest c_nextWays c_nextFewest x_length x_letters told o.2.2.2 ends)) (some (.int o.1)) := by
  refine Ct.of (cc := cX5_turn) (nL := 5) (ret := (some .int)) (own := RX5) (by decide) (Nat.le_of_ble_eq_true rfl) rfl ?_
  intro p e s m args below meth c A C hr hlk hnm
  refine s_lv (lv1 := [(0, .ref (ad 0)), (1, .int a1), (2, .int a2), (3, .int a3)]) [0, 1, 2, 3] rfl ?_
  unfold f_X5_turn at hf
  refine s_aload_n C 1 0 rfl dX5_turn_0 rfl ?_
  refine s_iload_n C 2 1 rfl dX5_turn_1 rfl ?_
  obtain ⟨r1, q2, hf⟩ := bn_s hf
  refine s_callW (T := TX5) (N := 11) (ci := 4) (q0 := 0) (rest := []) C 5 (c_X5_isHeir l D cI adK adV ad kc tolds hasImage n_heirs n_left n_bitten n_kinds n_figures k_heirs k_left k_bitten k_kinds k_figures t_heirs t_left t_bitten t_kinds t_figures r_gone r_heaps r_fewestCells r_deed c_ways c_fewest c_nextWays c_nextFewest x_length x_letters told refusals ends a1 r1 q2) (gV uu511 uu513 uu1547 uu1 uu514) hd_X5_isHeir rfl ⟨rfl, rfl⟩ ⟨Nat.le_of_ble_eq_true rfl, Nat.le_of_ble_eq_true rfl⟩ ⟨Nat.le_of_ble_eq_true rfl, Nat.le_of_ble_eq_true rfl⟩ rfl rfl rfl (Nat.le_of_ble_eq_true rfl) rfl dX5_turn_2 (fun _ => ?_)
  refine s_if_ne C 14 8 rfl dX5_turn_5 rfl (fun hc21 => ?_) (fun hc21 => ?_)
  · replace hf := ite_f hc21 hf
    refine s_iload_n C 15 2 rfl dX5_turn_14 rfl ?_
    refine s_if_lt C 24 18 rfl dX5_turn_15 rfl (fun hc18 => ?_) (fun hc18 => ?_)
    · replace hf := ite_t hc18 hf
      refine s_aload_n C 25 0 rfl dX5_turn_24 rfl ?_
      refine s_bipush C 27 rfl dX5_turn_25 bp_m2 ?_
      obtain ⟨r3, q4, hf⟩ := bn_s hf
      refine s_callW (T := TX5) (N := 11) (ci := 4) (q0 := 0) (rest := []) C 30 (c_X5_refused l D cI adK adV ad kc tolds hasImage n_heirs n_left n_bitten n_kinds n_figures k_heirs k_left k_bitten k_kinds k_figures t_heirs t_left t_bitten t_kinds t_figures r_gone r_heaps r_fewestCells r_deed c_ways c_fewest c_nextWays c_nextFewest x_length x_letters told refusals ends (-2 : Int32) r3 q4) (gV uu169 uu171 uu1541 uu1 uu172) hd_X5_refused rfl ⟨rfl, rfl⟩ ⟨Nat.le_of_ble_eq_true rfl, Nat.le_of_ble_eq_true rfl⟩ ⟨Nat.le_of_ble_eq_true rfl, Nat.le_of_ble_eq_true rfl⟩ rfl rfl rfl (Nat.le_of_ble_eq_true rfl) rfl dX5_turn_27 (fun _ => ?_)
      obtain rfl := Option.some.inj hf
      exact s_iret C kc hr hlk rfl rfl dX5_turn_30
    · replace hf := ite_f hc18 hf
      refine s_iload_n C 19 2 rfl dX5_turn_18 rfl ?_
      refine s_bipush C 21 rfl dX5_turn_19 bp_6 ?_
      refine s_icmp_lt C 31 24 rfl dX5_turn_21 rfl (fun hc17 => ?_) (fun hc17 => ?_)
      · replace hf := ite_t hc17 hf
        refine s_iload_n C 32 3 rfl dX5_turn_31 rfl ?_
        refine s_if_ge C 42 35 rfl dX5_turn_32 rfl (fun hc14 => ?_) (fun hc14 => ?_)
        · replace hf := ite_t hc14 hf
          refine s_iload_n C 43 3 rfl dX5_turn_42 rfl ?_
          refine s_bipush C 45 rfl dX5_turn_43 bp_10 ?_
          refine s_icmp_lt C 55 48 rfl dX5_turn_45 rfl (fun hc11 => ?_) (fun hc11 => ?_)
          · replace hf := ite_t hc11 hf
            refine s_bipush C 57 rfl dX5_turn_55 bp_10 ?_
            refine s_aload_n C 58 0 rfl dX5_turn_57 rfl ?_
            refine s_get (C1 := RX5) (T := TX5) (N := 11) (ci := 4) C 61 0 0 uX5 rfl rfl (Nat.le_of_ble_eq_true rfl) uu130 rfl rfl rfl dX5_turn_58 ?_
            refine s_get (C1 := RX0) (T := TX0) (N := 5) (ci := 0) C 64 1 0 uX0 rfl rfl (Nat.le_of_ble_eq_true rfl) uu41 rfl rfl rfl dX5_turn_61 ?_
            refine s_iload_n C 65 1 rfl dX5_turn_64 rfl ?_
            obtain ⟨h5, hf⟩ := ck_in hf
            refine s_iald C 66 2 rfl h5 rfl dX5_turn_65 ?_
            refine s_imul C 67 rfl dX5_turn_66 ?_
            refine s_aload_n C 68 0 rfl dX5_turn_67 rfl ?_
            refine s_get (C1 := RX5) (T := TX5) (N := 11) (ci := 4) C 71 0 0 uX5 rfl rfl (Nat.le_of_ble_eq_true rfl) uu130 rfl rfl rfl dX5_turn_68 ?_
            refine s_get (C1 := RX0) (T := TX0) (N := 5) (ci := 0) C 74 1 1 uX0 rfl rfl (Nat.le_of_ble_eq_true rfl) uu45 rfl rfl rfl dX5_turn_71 ?_
            refine s_iload_n C 75 1 rfl dX5_turn_74 rfl ?_
            obtain ⟨h6, hf⟩ := ck_in hf
            refine s_iald C 76 3 rfl h6 rfl dX5_turn_75 ?_
            refine s_iadd C 77 rfl dX5_turn_76 ?_
            refine s_istore (lv1 := [(4, .int (((10 : Int32) * (n_kinds a1.toNatClampNeg)) + (n_figures a1.toNatClampNeg))), (0, .ref (ad 0)), (1, .int a1), (2, .int a2), (3, .int a3)]) C 79 4 rfl dX5_turn_77 (Nat.le_of_ble_eq_true rfl) rfl ?_
            refine s_aload_n C 80 1 rfl dX5_turn_79 rfl ?_
            refine s_get (C1 := RX5) (T := TX5) (N := 11) (ci := 4) C 83 0 0 uX5 rfl rfl (Nat.le_of_ble_eq_true rfl) uu130 rfl rfl rfl dX5_turn_80 ?_
            refine s_get (C1 := RX0) (T := TX0) (N := 5) (ci := 0) C 86 1 0 uX0 rfl rfl (Nat.le_of_ble_eq_true rfl) uu41 rfl rfl rfl dX5_turn_83 ?_
            refine s_iload_n C 87 2 rfl dX5_turn_86 rfl ?_
            refine s_iload_n C 88 3 rfl dX5_turn_87 rfl ?_
            obtain ⟨h7, hf⟩ := ck_in hf
            refine s_iast (ws1 := (wX ad kc cI tolds hasImage n_heirs n_left n_bitten (upd n_kinds a1.toNatClampNeg a2) n_figures k_heirs k_left k_bitten k_kinds k_figures t_heirs t_left t_bitten t_kinds t_figures r_gone r_heaps r_fewestCells r_deed c_ways c_fewest c_nextWays c_nextFewest x_length x_letters told refusals ends)) C 89 2 rfl h7 rfl rfl dX5_turn_88 ?_
            refine s_aload_n C 90 1 rfl dX5_turn_89 rfl ?_
            refine s_get (C1 := RX5) (T := TX5) (N := 11) (ci := 4) C 93 0 0 uX5 rfl rfl (Nat.le_of_ble_eq_true rfl) uu130 rfl rfl rfl dX5_turn_90 ?_
            refine s_get (C1 := RX0) (T := TX0) (N := 5) (ci := 0) C 96 1 1 uX0 rfl rfl (Nat.le_of_ble_eq_true rfl) uu45 rfl rfl rfl dX5_turn_93 ?_
            refine s_iload_n C 97 2 rfl dX5_turn_96 rfl ?_
            refine s_iload_n C 98 4 rfl dX5_turn_97 rfl ?_
            obtain ⟨h8, hf⟩ := ck_in hf
            refine s_iast (ws1 := (wX ad kc cI tolds hasImage n_heirs n_left n_bitten (upd n_kinds a1.toNatClampNeg a2) (upd n_figures a1.toNatClampNeg a3) k_heirs k_left k_bitten k_kinds k_figures t_heirs t_left t_bitten t_kinds t_figures r_gone r_heaps r_fewestCells r_deed c_ways c_fewest c_nextWays c_nextFewest x_length x_letters told refusals ends)) C 99 3 rfl h8 rfl rfl dX5_turn_98 ?_
            refine s_iload C 101 0 rfl dX5_turn_99 rfl ?_
            obtain rfl := Option.some.inj hf
            exact s_iret C kc hr hlk rfl rfl dX5_turn_101
          · replace hf := ite_f hc11 hf
            refine s_aload_n C 49 0 rfl dX5_turn_48 rfl ?_
            refine s_bipush C 51 rfl dX5_turn_49 bp_m6 ?_
            obtain ⟨r9, q10, hf⟩ := bn_s hf
            refine s_callW (T := TX5) (N := 11) (ci := 4) (q0 := 0) (rest := []) C 54 (c_X5_refused l D cI adK adV ad kc tolds hasImage n_heirs n_left n_bitten n_kinds n_figures k_heirs k_left k_bitten k_kinds k_figures t_heirs t_left t_bitten t_kinds t_figures r_gone r_heaps r_fewestCells r_deed c_ways c_fewest c_nextWays c_nextFewest x_length x_letters told refusals ends (-6 : Int32) r9 q10) (gV uu169 uu171 uu1541 uu1 uu172) hd_X5_refused rfl ⟨rfl, rfl⟩ ⟨Nat.le_of_ble_eq_true rfl, Nat.le_of_ble_eq_true rfl⟩ ⟨Nat.le_of_ble_eq_true rfl, Nat.le_of_ble_eq_true rfl⟩ rfl rfl rfl (Nat.le_of_ble_eq_true rfl) rfl dX5_turn_51 (fun _ => ?_)
            obtain rfl := Option.some.inj hf
            exact s_iret C kc hr hlk rfl rfl dX5_turn_54
        · replace hf := ite_f hc14 hf
          refine s_aload_n C 36 0 rfl dX5_turn_35 rfl ?_
          refine s_bipush C 38 rfl dX5_turn_36 bp_m4 ?_
          obtain ⟨r12, q13, hf⟩ := bn_s hf
          refine s_callW (T := TX5) (N := 11) (ci := 4) (q0 := 0) (rest := []) C 41 (c_X5_refused l D cI adK adV ad kc tolds hasImage n_heirs n_left n_bitten n_kinds n_figures k_heirs k_left k_bitten k_kinds k_figures t_heirs t_left t_bitten t_kinds t_figures r_gone r_heaps r_fewestCells r_deed c_ways c_fewest c_nextWays c_nextFewest x_length x_letters told refusals ends (-4 : Int32) r12 q13) (gV uu169 uu171 uu1541 uu1 uu172) hd_X5_refused rfl ⟨rfl, rfl⟩ ⟨Nat.le_of_ble_eq_true rfl, Nat.le_of_ble_eq_true rfl⟩ ⟨Nat.le_of_ble_eq_true rfl, Nat.le_of_ble_eq_true rfl⟩ rfl rfl rfl (Nat.le_of_ble_eq_true rfl) rfl dX5_turn_38 (fun _ => ?_)
          obtain rfl := Option.some.inj hf
          exact s_iret C kc hr hlk rfl rfl dX5_turn_41
      · replace hf := ite_f hc17 hf
        refine s_aload_n C 25 0 rfl dX5_turn_24 rfl ?_
        refine s_bipush C 27 rfl dX5_turn_25 bp_m2 ?_
        obtain ⟨r15, q16, hf⟩ := bn_s hf
        refine s_callW (T := TX5) (N := 11) (ci := 4) (q0 := 0) (rest := []) C 30 (c_X5_refused l D cI adK adV ad kc tolds hasImage n_heirs n_left n_bitten n_kinds n_figures k_heirs k_left k_bitten k_kinds k_figures t_heirs t_left t_bitten t_kinds t_figures r_gone r_heaps r_fewestCells r_deed c_ways c_fewest c_nextWays c_nextFewest x_length x_letters told refusals ends (-2 : Int32) r15 q16) (gV uu169 uu171 uu1541 uu1 uu172) hd_X5_refused rfl ⟨rfl, rfl⟩ ⟨Nat.le_of_ble_eq_true rfl, Nat.le_of_ble_eq_true rfl⟩ ⟨Nat.le_of_ble_eq_true rfl, Nat.le_of_ble_eq_true rfl⟩ rfl rfl rfl (Nat.le_of_ble_eq_true rfl) rfl dX5_turn_27 (fun _ => ?_)
        obtain rfl := Option.some.inj hf
        exact s_iret C kc hr hlk rfl rfl dX5_turn_30
  · replace hf := ite_t hc21 hf
    refine s_aload_n C 9 0 rfl dX5_turn_8 rfl ?_
    refine s_iconst C 10 rfl dX5_turn_9 ic_m1 ?_
    obtain ⟨r19, q20, hf⟩ := bn_s hf
    refine s_callW (T := TX5) (N := 11) (ci := 4) (q0 := 0) (rest := []) C 13 (c_X5_refused l D cI adK adV ad kc tolds hasImage n_heirs n_left n_bitten n_kinds n_figures k_heirs k_left k_bitten k_kinds k_figures t_heirs t_left t_bitten t_kinds t_figures r_gone r_heaps r_fewestCells r_deed c_ways c_fewest c_nextWays c_nextFewest x_length x_letters told refusals ends (-1 : Int32) r19 q20) (gV uu169 uu171 uu1541 uu1 uu172) hd_X5_refused rfl ⟨rfl, rfl⟩ ⟨Nat.le_of_ble_eq_true rfl, Nat.le_of_ble_eq_true rfl⟩ ⟨Nat.le_of_ble_eq_true rfl, Nat.le_of_ble_eq_true rfl⟩ rfl rfl rfl (Nat.le_of_ble_eq_true rfl) rfl dX5_turn_10 (fun _ => ?_)
    obtain rfl := Option.some.inj hf
    exact s_iret C kc hr hlk rfl rfl dX5_turn_13


theorem hd_X5_pieces : yX5_pieces.cls = RX5 ∧ yX5_pieces.cls ≠ "java/lang/invoke/MethodHandle" ∧ yX5_pieces.cls ≠ "java/lang/invoke/VarHandle" ∧ (parseMethodDescriptor yX5_pieces.desc).map (fun d => d.parameters.length) = some 1 := by decide +kernel
set_option maxHeartbeats 4000000 in
set_option maxRecDepth 100000 in
theorem c_X5_pieces (l : Launch) (D : va_G) (cI : ClassId) (adK adV : Nat → Nat) (ad : Nat → Nat) (kc : Nat → Nat) (tolds : Int32) (hasImage : Int32) (n_heirs : Int32) (n_left : Int32) (n_bitten : Int32) (n_kinds : (Nat → Int32)) (n_figures : (Nat → Int32)) (k_heirs : Int32) (k_left : Int32) (k_bitten : Int32) (k_kinds : (Nat → Int32)) (k_figures : (Nat → Int32)) (t_heirs : Int32) (t_left : Int32) (t_bitten : Int32) (t_kinds : (Nat → Int32)) (t_figures : (Nat → Int32)) (r_gone : Int32) (r_heaps : Int32) (r_fewestCells : Int32) (r_deed : Int32) (c_ways : (Nat → Int32)) (c_fewest : (Nat → Int32)) (c_nextWays : (Nat → Int32)) (c_nextFewest : (Nat → Int32)) (x_length : Int32) (x_letters : (Nat → Int32)) (told : (Nat → Int32)) (refusals : (Nat → Int32)) (ends : (Nat → Int32)) (a1 : Int32) (o : Int32 × Int32 × Int32 × Int32 × Int32 × (Nat → Int32)) (hf : f_X5_pieces n_left r_gone r_heaps r_fewestCells r_deed refusals a1 = some o) : Ct l D cI adK adV yX5_pieces (wy yX5_pieces cX5_pieces 2 (some .int)) { frames := 3, cells := 0, slots := 0, locals := 71 } 0 0 [.ref (ad 0), .int a1] (wX ad kc cI tolds hasImage n_heirs n_left n_bitten n_kinds n_figures k_heirs k_left k_bitten k_kinds k_figures t_heirs t_left t_bitten t_kinds t_figures r_gone r_heaps r_fewestCells r_deed c_ways c_fewest c_nextWays c_nextFewest x_length x_letters told refusals ends) (fun _ => (wX ad kc cI tolds hasImage n_heirs n_left n_bitten n_kinds n_figures k_heirs k_left k_bitten k_kinds k_figures t_heirs t_left t_bitten t_kinds t_figures o.2.1 o.2.2.1 o.2.2.2.1 o.2.2.2.2.1 c_ways c_fewest c_nextWays c_nextFewest x_length x_letters told o.2.2.2.2.2 ends)) (some (.int o.1)) := by
  refine Ct.of (cc := cX5_pieces) (nL := 2) (ret := (some .int)) (own := RX5) (by decide) (Nat.le_of_ble_eq_true rfl) rfl ?_
  intro p e s m args below meth c A C hr hlk hnm
  refine s_lv (lv1 := [(0, .ref (ad 0)), (1, .int a1)]) [0, 1] rfl ?_
  unfold f_X5_pieces at hf
  refine s_iload_n C 1 1 rfl dX5_pieces_0 rfl ?_
  refine s_if_lt C 9 4 rfl dX5_pieces_1 rfl (fun hc18 => ?_) (fun hc18 => ?_)
  · replace hf := ite_t hc18 hf
    refine s_aload_n C 10 0 rfl dX5_pieces_9 rfl ?_
    refine s_bipush C 12 rfl dX5_pieces_10 bp_m2 ?_
    obtain ⟨r1, q2, hf⟩ := bn_s hf
    refine s_callW (T := TX5) (N := 11) (ci := 4) (q0 := 0) (rest := []) C 15 (c_X5_refused l D cI adK adV ad kc tolds hasImage n_heirs n_left n_bitten n_kinds n_figures k_heirs k_left k_bitten k_kinds k_figures t_heirs t_left t_bitten t_kinds t_figures r_gone r_heaps r_fewestCells r_deed c_ways c_fewest c_nextWays c_nextFewest x_length x_letters told refusals ends (-2 : Int32) r1 q2) (gV uu169 uu171 uu1541 uu1 uu172) hd_X5_refused rfl ⟨rfl, rfl⟩ ⟨Nat.le_of_ble_eq_true rfl, Nat.le_of_ble_eq_true rfl⟩ ⟨Nat.le_of_ble_eq_true rfl, Nat.le_of_ble_eq_true rfl⟩ rfl rfl rfl (Nat.le_of_ble_eq_true rfl) rfl dX5_pieces_12 (fun _ => ?_)
    obtain rfl := Option.some.inj hf
    exact s_iret C kc hr hlk rfl rfl dX5_pieces_15
  · replace hf := ite_f hc18 hf
    refine s_iload_n C 5 1 rfl dX5_pieces_4 rfl ?_
    refine s_iconst C 6 rfl dX5_pieces_5 ic_3 ?_
    refine s_icmp_le C 16 9 rfl dX5_pieces_6 rfl (fun hc17 => ?_) (fun hc17 => ?_)
    · replace hf := ite_t hc17 hf
      refine s_aload_n C 17 0 rfl dX5_pieces_16 rfl ?_
      refine s_get (C1 := RX5) (T := TX5) (N := 11) (ci := 4) C 20 0 3 uX5 rfl rfl (Nat.le_of_ble_eq_true rfl) uu136 rfl rfl rfl dX5_pieces_17 ?_
      refine s_aload_n C 21 0 rfl dX5_pieces_20 rfl ?_
      refine s_get (C1 := RX5) (T := TX5) (N := 11) (ci := 4) C 24 0 0 uX5 rfl rfl (Nat.le_of_ble_eq_true rfl) uu130 rfl rfl rfl dX5_pieces_21 ?_
      refine s_get (C1 := RX0) (T := TX0) (N := 5) (ci := 0) C 27 1 3 uX0 rfl rfl (Nat.le_of_ble_eq_true rfl) uu53 rfl rfl rfl dX5_pieces_24 ?_
      obtain ⟨r3, q4, hf⟩ := bn_s hf
      refine s_callV (T := TX3) (N := 4) (ci := 2) (q0 := 10) (rest := []) (wr := [((ad 0), .inr (4, [.ref (ad 1), .ref (ad 4), .ref (ad 7), .ref (ad 10), .ref (ad 11), .ref (ad 12), .ref (ad 14), .ref (ad 15), .ref (ad 16), .int tolds, .int hasImage])), ((ad 1), .inr (0, [.ref (ad 2), .ref (ad 3), .int n_heirs, .int n_left, .int n_bitten])), ((ad 2), .inl (cI, 5, .inl n_kinds)), ((ad 3), .inl (cI, 5, .inl n_figures)), ((ad 4), .inr (0, [.ref (ad 5), .ref (ad 6), .int k_heirs, .int k_left, .int k_bitten])), ((ad 5), .inl (cI, 5, .inl k_kinds)), ((ad 6), .inl (cI, 5, .inl k_figures)), ((ad 7), .inr (0, [.ref (ad 8), .ref (ad 9), .int t_heirs, .int t_left, .int t_bitten])), ((ad 8), .inl (cI, 5, .inl t_kinds)), ((ad 9), .inl (cI, 5, .inl t_figures)), ((ad 11), .inr (1, [.ref (kc 0), .ref (kc 1), .ref (kc 2), .ref (kc 3)])), ((kc 0), .inl (cI, 64, .inl c_ways)), ((kc 1), .inl (cI, 64, .inl c_fewest)), ((kc 2), .inl (cI, 64, .inl c_nextWays)), ((kc 3), .inl (cI, 64, .inl c_nextFewest)), ((ad 12), .inr (3, [.ref (ad 13), .int x_length])), ((ad 13), .inl (cI, 96, .inl x_letters)), ((ad 14), .inl (cI, 16, .inl told)), ((ad 15), .inl (cI, 7, .inl refusals)), ((ad 16), .inl (cI, 4, .inl ends))]) (ws2 := fun _ => (wX ad kc cI tolds hasImage n_heirs n_left n_bitten n_kinds n_figures k_heirs k_left k_bitten k_kinds k_figures t_heirs t_left t_bitten t_kinds t_figures r3.1 r3.2.1 r3.2.2.1 r3.2.2.2 c_ways c_fewest c_nextWays c_nextFewest x_length x_letters told refusals ends)) C 30 (c_X3_reads l D cI adK adV (ad 10) r_gone r_heaps r_fewestCells r_deed n_left r3 q4) (gV uu521 uu523 uu524 uu3 uu525) hd_X3_reads rfl ⟨rfl, rfl⟩ ⟨Nat.le_of_ble_eq_true rfl, Nat.le_of_ble_eq_true rfl⟩ ⟨Nat.le_of_ble_eq_true rfl, Nat.le_of_ble_eq_true rfl⟩ rfl rfl rfl (Nat.le_of_ble_eq_true rfl) [10] [0, 1, 2, 3, 4, 5, 6, 7, 8, 9, 11, 12, 13, 14, 15, 16, 17, 18, 19, 20] [0, 1, 2, 3, 4, 5, 6, 7, 8, 9, 20, 10, 11, 12, 13, 14, 15, 16, 17, 18, 19] rfl rfl rfl rfl (by decide) rfl (fun _ => rfl) (fun _ => rfl) rfl dX5_pieces_27 (fun _ => ?_)
      refine s_iload_n C 31 1 rfl dX5_pieces_30 rfl ?_
      refine s_if_ne C 42 34 rfl dX5_pieces_31 rfl (fun hc14 => ?_) (fun hc14 => ?_)
      · replace hf := ite_f hc14 hf
        refine s_iload_n C 43 1 rfl dX5_pieces_42 rfl ?_
        refine s_iconst C 44 rfl dX5_pieces_43 ic_1 ?_
        refine s_icmp_ne C 55 47 rfl dX5_pieces_44 rfl (fun hc13 => ?_) (fun hc13 => ?_)
        · replace hf := ite_f hc13 hf
          refine s_aload_n C 56 0 rfl dX5_pieces_55 rfl ?_
          refine s_get (C1 := RX5) (T := TX5) (N := 11) (ci := 4) C 59 0 3 uX5 rfl rfl (Nat.le_of_ble_eq_true rfl) uu136 rfl rfl rfl dX5_pieces_56 ?_
          obtain ⟨r5, q6, hf⟩ := bn_s hf
          refine s_callV (T := TX3) (N := 4) (ci := 2) (q0 := 10) (rest := []) (wr := [((ad 0), .inr (4, [.ref (ad 1), .ref (ad 4), .ref (ad 7), .ref (ad 10), .ref (ad 11), .ref (ad 12), .ref (ad 14), .ref (ad 15), .ref (ad 16), .int tolds, .int hasImage])), ((ad 1), .inr (0, [.ref (ad 2), .ref (ad 3), .int n_heirs, .int n_left, .int n_bitten])), ((ad 2), .inl (cI, 5, .inl n_kinds)), ((ad 3), .inl (cI, 5, .inl n_figures)), ((ad 4), .inr (0, [.ref (ad 5), .ref (ad 6), .int k_heirs, .int k_left, .int k_bitten])), ((ad 5), .inl (cI, 5, .inl k_kinds)), ((ad 6), .inl (cI, 5, .inl k_figures)), ((ad 7), .inr (0, [.ref (ad 8), .ref (ad 9), .int t_heirs, .int t_left, .int t_bitten])), ((ad 8), .inl (cI, 5, .inl t_kinds)), ((ad 9), .inl (cI, 5, .inl t_figures)), ((ad 11), .inr (1, [.ref (kc 0), .ref (kc 1), .ref (kc 2), .ref (kc 3)])), ((kc 0), .inl (cI, 64, .inl c_ways)), ((kc 1), .inl (cI, 64, .inl c_fewest)), ((kc 2), .inl (cI, 64, .inl c_nextWays)), ((kc 3), .inl (cI, 64, .inl c_nextFewest)), ((ad 12), .inr (3, [.ref (ad 13), .int x_length])), ((ad 13), .inl (cI, 96, .inl x_letters)), ((ad 14), .inl (cI, 16, .inl told)), ((ad 15), .inl (cI, 7, .inl refusals)), ((ad 16), .inl (cI, 4, .inl ends))]) (ws2 := fun _ => (wX ad kc cI tolds hasImage n_heirs n_left n_bitten n_kinds n_figures k_heirs k_left k_bitten k_kinds k_figures t_heirs t_left t_bitten t_kinds t_figures r3.1 r3.2.1 r3.2.2.1 r3.2.2.2 c_ways c_fewest c_nextWays c_nextFewest x_length x_letters told refusals ends)) C 62 (c_X3_isInChancery l D cI adK adV (ad 10) r3.1 r3.2.1 r3.2.2.1 r3.2.2.2 r5 q6) (gV uu622 uu546 uu547 uu3 uu548) hd_X3_isInChancery rfl ⟨rfl, rfl⟩ ⟨Nat.le_of_ble_eq_true rfl, Nat.le_of_ble_eq_true rfl⟩ ⟨Nat.le_of_ble_eq_true rfl, Nat.le_of_ble_eq_true rfl⟩ rfl rfl rfl (Nat.le_of_ble_eq_true rfl) [10] [0, 1, 2, 3, 4, 5, 6, 7, 8, 9, 11, 12, 13, 14, 15, 16, 17, 18, 19, 20] [0, 1, 2, 3, 4, 5, 6, 7, 8, 9, 20, 10, 11, 12, 13, 14, 15, 16, 17, 18, 19] rfl rfl rfl rfl (by decide) rfl (fun _ => rfl) (fun _ => rfl) rfl dX5_pieces_59 (fun _ => ?_)
          refine s_if_eq C 68 65 rfl dX5_pieces_62 rfl (fun hc12 => ?_) (fun hc12 => ?_)
          · replace hf := ite_t hc12 hf
            refine s_iload_n C 69 1 rfl dX5_pieces_68 rfl ?_
            refine s_iconst C 70 rfl dX5_pieces_69 ic_2 ?_
            refine s_icmp_ne C 86 73 rfl dX5_pieces_70 rfl (fun hc11 => ?_) (fun hc11 => ?_)
            · replace hf := ite_f hc11 hf
              refine s_aload_n C 87 0 rfl dX5_pieces_86 rfl ?_
              refine s_get (C1 := RX5) (T := TX5) (N := 11) (ci := 4) C 90 0 3 uX5 rfl rfl (Nat.le_of_ble_eq_true rfl) uu136 rfl rfl rfl dX5_pieces_87 ?_
              refine s_get (C1 := RX3) (T := TX3) (N := 4) (ci := 2) C 93 10 3 uX3 rfl rfl (Nat.le_of_ble_eq_true rfl) uu86 rfl rfl rfl dX5_pieces_90 ?_
              obtain ⟨r7, q8, hf⟩ := bn_s hf
              refine s_callS0 (host := "") (rest := []) C 96 (c_J6_bitCount_0f7a4 l D cI adK adV r3.2.2.2 r7 q8) (gS uu487 uu489 uu15 uu490) hd_J6_bitCount_0f7a4 rfl ⟨rfl, rfl⟩ ⟨Nat.le_of_ble_eq_true rfl, Nat.le_of_ble_eq_true rfl⟩ ⟨Nat.le_of_ble_eq_true rfl, Nat.le_of_ble_eq_true rfl⟩ rfl (Nat.le_of_ble_eq_true rfl) rfl dX5_pieces_93 ?_
              obtain rfl := Option.some.inj hf
              exact s_iret C kc hr hlk rfl rfl dX5_pieces_96
            · replace hf := ite_t hc11 hf
              refine s_aload_n C 74 0 rfl dX5_pieces_73 rfl ?_
              refine s_get (C1 := RX5) (T := TX5) (N := 11) (ci := 4) C 77 0 3 uX5 rfl rfl (Nat.le_of_ble_eq_true rfl) uu136 rfl rfl rfl dX5_pieces_74 ?_
              refine s_get (C1 := RX3) (T := TX3) (N := 4) (ci := 2) C 80 10 3 uX3 rfl rfl (Nat.le_of_ble_eq_true rfl) uu86 rfl rfl rfl dX5_pieces_77 ?_
              obtain ⟨r9, q10, hf⟩ := bn_s hf
              refine s_callS0 (host := "") (rest := []) C 83 (c_X2_leastCell l D cI adK adV r3.2.2.2 r9 q10) (gS uu624 uu626 uu14 uu627) hd_X2_leastCell rfl ⟨rfl, rfl⟩ ⟨Nat.le_of_ble_eq_true rfl, Nat.le_of_ble_eq_true rfl⟩ ⟨Nat.le_of_ble_eq_true rfl, Nat.le_of_ble_eq_true rfl⟩ rfl (Nat.le_of_ble_eq_true rfl) rfl dX5_pieces_80 ?_
              refine s_goto C 96 dX5_pieces_83 rfl ?_
              obtain rfl := Option.some.inj hf
              exact s_iret C kc hr hlk rfl rfl dX5_pieces_96
          · replace hf := ite_f hc12 hf
            refine s_bipush C 67 rfl dX5_pieces_65 bp_m9 ?_
            obtain rfl := Option.some.inj hf
            exact s_iret C kc hr hlk rfl rfl dX5_pieces_67
        · replace hf := ite_t hc13 hf
          refine s_aload_n C 48 0 rfl dX5_pieces_47 rfl ?_
          refine s_get (C1 := RX5) (T := TX5) (N := 11) (ci := 4) C 51 0 3 uX5 rfl rfl (Nat.le_of_ble_eq_true rfl) uu136 rfl rfl rfl dX5_pieces_48 ?_
          refine s_get (C1 := RX3) (T := TX3) (N := 4) (ci := 2) C 54 10 2 uX3 rfl rfl (Nat.le_of_ble_eq_true rfl) uu82 rfl rfl rfl dX5_pieces_51 ?_
          obtain rfl := Option.some.inj hf
          exact s_iret C kc hr hlk rfl rfl dX5_pieces_54
      · replace hf := ite_t hc14 hf
        refine s_aload_n C 35 0 rfl dX5_pieces_34 rfl ?_
        refine s_get (C1 := RX5) (T := TX5) (N := 11) (ci := 4) C 38 0 3 uX5 rfl rfl (Nat.le_of_ble_eq_true rfl) uu136 rfl rfl rfl dX5_pieces_35 ?_
        refine s_get (C1 := RX3) (T := TX3) (N := 4) (ci := 2) C 41 10 1 uX3 rfl rfl (Nat.le_of_ble_eq_true rfl) uu78 rfl rfl rfl dX5_pieces_38 ?_
        obtain rfl := Option.some.inj hf
        exact s_iret C kc hr hlk rfl rfl dX5_pieces_41
    · replace hf := ite_f hc17 hf
      refine s_aload_n C 10 0 rfl dX5_pieces_9 rfl ?_
      refine s_bipush C 12 rfl dX5_pieces_10 bp_m2 ?_
      obtain ⟨r15, q16, hf⟩ := bn_s hf
      refine s_callW (T := TX5) (N := 11) (ci := 4) (q0 := 0) (rest := []) C 15 (c_X5_refused l D cI adK adV ad kc tolds hasImage n_heirs n_left n_bitten n_kinds n_figures k_heirs k_left k_bitten k_kinds k_figures t_heirs t_left t_bitten t_kinds t_figures r_gone r_heaps r_fewestCells r_deed c_ways c_fewest c_nextWays c_nextFewest x_length x_letters told refusals ends (-2 : Int32) r15 q16) (gV uu169 uu171 uu1541 uu1 uu172) hd_X5_refused rfl ⟨rfl, rfl⟩ ⟨Nat.le_of_ble_eq_true rfl, Nat.le_of_ble_eq_true rfl⟩ ⟨Nat.le_of_ble_eq_true rfl, Nat.le_of_ble_eq_true rfl⟩ rfl rfl rfl (Nat.le_of_ble_eq_true rfl) rfl dX5_pieces_12 (fun _ => ?_)
      obtain rfl := Option.some.inj hf
      exact s_iret C kc hr hlk rfl rfl dX5_pieces_15


theorem hd_X5_edge : yX5_edge.cls = RX5 ∧ yX5_edge.cls ≠ "java/lang/invoke/MethodHandle" ∧ yX5_edge.cls ≠ "java/lang/invoke/VarHandle" ∧ (parseMethodDescriptor yX5_edge.desc).map (fun d => d.parameters.length) = some 1 := by decide +kernel
set_option maxHeartbeats 4000000 in
set_option maxRecDepth 100000 in
theorem c_X5_edge (l : Launch) (D : va_G) (cI : ClassId) (adK adV : Nat → Nat) (ad : Nat → Nat) (kc : Nat → Nat) (tolds : Int32) (hasImage : Int32) (n_heirs : Int32) (n_left : Int32) (n_bitten : Int32) (n_kinds : (Nat → Int32)) (n_figures : (Nat → Int32)) (k_heirs : Int32) (k_left : Int32) (k_bitten : Int32) (k_kinds : (Nat → Int32)) (k_figures : (Nat → Int32)) (t_heirs : Int32) (t_left : Int32) (t_bitten : Int32) (t_kinds : (Nat → Int32)) (t_figures : (Nat → Int32)) (r_gone : Int32) (r_heaps : Int32) (r_fewestCells : Int32) (r_deed : Int32) (c_ways : (Nat → Int32)) (c_fewest : (Nat → Int32)) (c_nextWays : (Nat → Int32)) (c_nextFewest : (Nat → Int32)) (x_length : Int32) (x_letters : (Nat → Int32)) (told : (Nat → Int32)) (refusals : (Nat → Int32)) (ends : (Nat → Int32)) (a1 : Int32) (o : Int32 × (Nat → Int32)) (hf : f_X5_edge n_left refusals a1 = some o) : Ct l D cI adK adV yX5_edge (wy yX5_edge cX5_edge 2 (some .int)) { frames := 3, cells := 0, slots := 0, locals := 69 } 0 0 [.ref (ad 0), .int a1] (wX ad kc cI tolds hasImage n_heirs n_left n_bitten n_kinds n_figures k_heirs k_left k_bitten k_kinds k_figures t_heirs t_left t_bitten t_kinds t_figures r_gone r_heaps r_fewestCells r_deed c_ways c_fewest c_nextWays c_nextFewest x_length x_letters told refusals ends) (fun _ => (wX ad kc cI tolds hasImage n_heirs n_left n_bitten n_kinds n_figures k_heirs k_left k_bitten k_kinds k_figures t_heirs t_left t_bitten t_kinds t_figures r_gone r_heaps r_fewestCells r_deed c_ways c_fewest c_nextWays c_nextFewest x_length x_letters told o.2 ends)) (some (.int o.1)) := by
  refine Ct.of (cc := cX5_edge) (nL := 2) (ret := (some .int)) (own := RX5) (by decide) (Nat.le_of_ble_eq_true rfl) rfl ?_
  intro p e s m args below meth c A C hr hlk hnm
  refine s_lv (lv1 := [(0, .ref (ad 0)), (1, .int a1)]) [0, 1] rfl ?_
  unfold f_X5_edge at hf
  refine s_iload_n C 1 1 rfl dX5_edge_0 rfl ?_
  obtain ⟨r1, q2, hf⟩ := bn_s hf
  refine s_callS0 (host := "") (rest := []) C 4 (c_X5_isTwofold l D cI adK adV a1 r1 q2) (gS uu601 uu603 uu1 uu604) hd_X5_isTwofold rfl ⟨rfl, rfl⟩ ⟨Nat.le_of_ble_eq_true rfl, Nat.le_of_ble_eq_true rfl⟩ ⟨Nat.le_of_ble_eq_true rfl, Nat.le_of_ble_eq_true rfl⟩ rfl (Nat.le_of_ble_eq_true rfl) rfl dX5_edge_1 ?_
  refine s_if_ne C 14 7 rfl dX5_edge_4 rfl (fun hc10 => ?_) (fun hc10 => ?_)
  · replace hf := ite_f hc10 hf
    refine s_iload_n C 15 1 rfl dX5_edge_14 rfl ?_
    refine s_if_ne C 31 18 rfl dX5_edge_15 rfl (fun hc7 => ?_) (fun hc7 => ?_)
    · replace hf := ite_f hc7 hf
      refine s_aload_n C 32 0 rfl dX5_edge_31 rfl ?_
      refine s_get (C1 := RX5) (T := TX5) (N := 11) (ci := 4) C 35 0 0 uX5 rfl rfl (Nat.le_of_ble_eq_true rfl) uu130 rfl rfl rfl dX5_edge_32 ?_
      refine s_get (C1 := RX0) (T := TX0) (N := 5) (ci := 0) C 38 1 3 uX0 rfl rfl (Nat.le_of_ble_eq_true rfl) uu53 rfl rfl rfl dX5_edge_35 ?_
      obtain ⟨r3, q4, hf⟩ := bn_s hf
      refine s_callS0 (host := "") (rest := []) C 41 (c_X2_holesOf l D cI adK adV n_left r3 q4) (gS uu642 uu644 uu14 uu645) hd_X2_holesOf rfl ⟨rfl, rfl⟩ ⟨Nat.le_of_ble_eq_true rfl, Nat.le_of_ble_eq_true rfl⟩ ⟨Nat.le_of_ble_eq_true rfl, Nat.le_of_ble_eq_true rfl⟩ rfl (Nat.le_of_ble_eq_true rfl) rfl dX5_edge_38 ?_
      obtain rfl := Option.some.inj hf
      exact s_iret C kc hr hlk rfl rfl dX5_edge_41
    · replace hf := ite_t hc7 hf
      refine s_aload_n C 19 0 rfl dX5_edge_18 rfl ?_
      refine s_get (C1 := RX5) (T := TX5) (N := 11) (ci := 4) C 22 0 0 uX5 rfl rfl (Nat.le_of_ble_eq_true rfl) uu130 rfl rfl rfl dX5_edge_19 ?_
      refine s_get (C1 := RX0) (T := TX0) (N := 5) (ci := 0) C 25 1 3 uX0 rfl rfl (Nat.le_of_ble_eq_true rfl) uu53 rfl rfl rfl dX5_edge_22 ?_
      obtain ⟨r5, q6, hf⟩ := bn_s hf
      refine s_callS0 (host := "") (rest := []) C 28 (c_X2_openSides l D cI adK adV n_left r5 q6) (gS uu637 uu639 uu14 uu640) hd_X2_openSides rfl ⟨rfl, rfl⟩ ⟨Nat.le_of_ble_eq_true rfl, Nat.le_of_ble_eq_true rfl⟩ ⟨Nat.le_of_ble_eq_true rfl, Nat.le_of_ble_eq_true rfl⟩ rfl (Nat.le_of_ble_eq_true rfl) rfl dX5_edge_25 ?_
      refine s_goto C 41 dX5_edge_28 rfl ?_
      obtain rfl := Option.some.inj hf
      exact s_iret C kc hr hlk rfl rfl dX5_edge_41
  · replace hf := ite_t hc10 hf
    refine s_aload_n C 8 0 rfl dX5_edge_7 rfl ?_
    refine s_bipush C 10 rfl dX5_edge_8 bp_m2 ?_
    obtain ⟨r8, q9, hf⟩ := bn_s hf
    refine s_callW (T := TX5) (N := 11) (ci := 4) (q0 := 0) (rest := []) C 13 (c_X5_refused l D cI adK adV ad kc tolds hasImage n_heirs n_left n_bitten n_kinds n_figures k_heirs k_left k_bitten k_kinds k_figures t_heirs t_left t_bitten t_kinds t_figures r_gone r_heaps r_fewestCells r_deed c_ways c_fewest c_nextWays c_nextFewest x_length x_letters told refusals ends (-2 : Int32) r8 q9) (gV uu169 uu171 uu1541 uu1 uu172) hd_X5_refused rfl ⟨rfl, rfl⟩ ⟨Nat.le_of_ble_eq_true rfl, Nat.le_of_ble_eq_true rfl⟩ ⟨Nat.le_of_ble_eq_true rfl, Nat.le_of_ble_eq_true rfl⟩ rfl rfl rfl (Nat.le_of_ble_eq_true rfl) rfl dX5_edge_10 (fun _ => ?_)
    obtain rfl := Option.some.inj hf
    exact s_iret C kc hr hlk rfl rfl dX5_edge_13


theorem hd_X5_can : yX5_can.cls = RX5 ∧ yX5_can.cls ≠ "java/lang/invoke/MethodHandle" ∧ yX5_can.cls ≠ "java/lang/invoke/VarHandle" ∧ (parseMethodDescriptor yX5_can.desc).map (fun d => d.parameters.length) = some 1 := by decide +kernel
set_option maxHeartbeats 4000000 in
set_option maxRecDepth 100000 in
theorem c_X5_can (l : Launch) (D : va_G) (cI : ClassId) (adK adV : Nat → Nat) (ad : Nat → Nat) (kc : Nat → Nat) (tolds : Int32) (hasImage : Int32) (n_heirs : Int32) (n_left : Int32) (n_bitten : Int32) (n_kinds : (Nat → Int32)) (n_figures : (Nat → Int32)) (k_heirs : Int32) (k_left : Int32) (k_bitten : Int32) (k_kinds : (Nat → Int32)) (k_figures : (Nat → Int32)) (t_heirs : Int32) (t_left : Int32) (t_bitten : Int32) (t_kinds : (Nat → Int32)) (t_figures : (Nat → Int32)) (r_gone : Int32) (r_heaps : Int32) (r_fewestCells : Int32) (r_deed : Int32) (c_ways : (Nat → Int32)) (c_fewest : (Nat → Int32)) (c_nextWays : (Nat → Int32)) (c_nextFewest : (Nat → Int32)) (x_length : Int32) (x_letters : (Nat → Int32)) (told : (Nat → Int32)) (refusals : (Nat → Int32)) (ends : (Nat → Int32)) (a1 : Int32) (o : Int32 × (Nat → Int32)) (hf : f_X5_can n_left refusals a1 = some o) : Ct l D cI adK adV yX5_can (wy yX5_can cX5_can 6 (some .int)) { frames := 3, cells := 0, slots := 0, locals := 66 } 0 0 [.ref (ad 0), .int a1] (wX ad kc cI tolds hasImage n_heirs n_left n_bitten n_kinds n_figures k_heirs k_left k_bitten k_kinds k_figures t_heirs t_left t_bitten t_kinds t_figures r_gone r_heaps r_fewestCells r_deed c_ways c_fewest c_nextWays c_nextFewest x_length x_letters told refusals ends) (fun _ => (wX ad kc cI tolds hasImage n_heirs n_left n_bitten n_kinds n_figures k_heirs k_left k_bitten k_kinds k_figures t_heirs t_left t_bitten t_kinds t_figures r_gone r_heaps r_fewestCells r_deed c_ways c_fewest c_nextWays c_nextFewest x_length x_letters told o.2 ends)) (some (.int o.1)) := by
  refine Ct.of (cc := cX5_can) (nL := 6) (ret := (some .int)) (own := RX5) (by decide) (Nat.le_of_ble_eq_true rfl) rfl ?_
  intro p e s m args below meth c A C hr hlk hnm
  refine s_lv (lv1 := [(0, .ref (ad 0)), (1, .int a1)]) [0, 1] rfl ?_
  unfold f_X5_can at hf
  refine s_iload_n C 1 1 rfl dX5_can_0 rfl ?_
  refine s_iconst C 2 rfl dX5_can_1 ic_m1 ?_
  refine s_icmp_lt C 10 5 rfl dX5_can_2 rfl (fun hc22 => ?_) (fun hc22 => ?_)
  · replace hf := ite_t hc22 hf
    refine s_aload_n C 11 0 rfl dX5_can_10 rfl ?_
    refine s_bipush C 13 rfl dX5_can_11 bp_m2 ?_
    obtain ⟨r1, q2, hf⟩ := bn_s hf
    refine s_callW (T := TX5) (N := 11) (ci := 4) (q0 := 0) (rest := []) C 16 (c_X5_refused l D cI adK adV ad kc tolds hasImage n_heirs n_left n_bitten n_kinds n_figures k_heirs k_left k_bitten k_kinds k_figures t_heirs t_left t_bitten t_kinds t_figures r_gone r_heaps r_fewestCells r_deed c_ways c_fewest c_nextWays c_nextFewest x_length x_letters told refusals ends (-2 : Int32) r1 q2) (gV uu169 uu171 uu1541 uu1 uu172) hd_X5_refused rfl ⟨rfl, rfl⟩ ⟨Nat.le_of_ble_eq_true rfl, Nat.le_of_ble_eq_true rfl⟩ ⟨Nat.le_of_ble_eq_true rfl, Nat.le_of_ble_eq_true rfl⟩ rfl rfl rfl (Nat.le_of_ble_eq_true rfl) rfl dX5_can_13 (fun _ => ?_)
    obtain rfl := Option.some.inj hf
    exact s_iret C kc hr hlk rfl rfl dX5_can_16
  · replace hf := ite_f hc22 hf
    refine s_iload_n C 6 1 rfl dX5_can_5 rfl ?_
    refine s_iconst C 7 rfl dX5_can_6 ic_4 ?_
    refine s_icmp_lt C 17 10 rfl dX5_can_7 rfl (fun hc21 => ?_) (fun hc21 => ?_)
    · replace hf := ite_t hc21 hf
      refine s_iload_n C 18 1 rfl dX5_can_17 rfl ?_
      refine s_jn (α := Int32) 29 (fun j3 => [(0, .ref (ad 0)), (1, .int a1)]) (fun j3 => [.int j3]) (fun j3 => (wX ad kc cI tolds hasImage n_heirs n_left n_bitten n_kinds n_figures k_heirs k_left k_bitten k_kinds k_figures t_heirs t_left t_bitten t_kinds t_figures r_gone r_heaps r_fewestCells r_deed c_ways c_fewest c_nextWays c_nextFewest x_length x_letters told refusals ends)) hf (fun j3 hf => ?_) (fun hj hf => ?_)
      · refine s_istore_n (lv1 := [(2, .int j3), (0, .ref (ad 0)), (1, .int a1)]) C 30 2 rfl dX5_can_29 rfl (Nat.le_of_ble_eq_true rfl) rfl ?_
        refine s_iload_n C 31 2 rfl dX5_can_30 rfl ?_
        refine s_jn (α := Int32) 43 (fun j5 => [(0, .ref (ad 0)), (2, .int j3)]) (fun j5 => [.int j5]) (fun j5 => (wX ad kc cI tolds hasImage n_heirs n_left n_bitten n_kinds n_figures k_heirs k_left k_bitten k_kinds k_figures t_heirs t_left t_bitten t_kinds t_figures r_gone r_heaps r_fewestCells r_deed c_ways c_fewest c_nextWays c_nextFewest x_length x_letters told refusals ends)) hf (fun j5 hf => ?_) (fun hj hf => ?_)
        · refine s_istore_n (lv1 := [(3, .int j5), (0, .ref (ad 0)), (2, .int j3)]) C 44 3 rfl dX5_can_43 rfl (Nat.le_of_ble_eq_true rfl) rfl ?_
          refine s_iconst C 45 rfl dX5_can_44 ic_0 ?_
          refine s_istore (lv1 := [(4, .int (0 : Int32)), (3, .int j5), (0, .ref (ad 0)), (2, .int j3)]) C 47 4 rfl dX5_can_45 (Nat.le_of_ble_eq_true rfl) rfl ?_
          refine s_iload_n C 48 3 rfl dX5_can_47 rfl ?_
          refine s_istore (lv1 := [(5, .int j3), (4, .int (0 : Int32)), (3, .int j5), (0, .ref (ad 0)), (2, .int j3)]) C 50 5 rfl dX5_can_48 (Nat.le_of_ble_eq_true rfl) rfl ?_
          refine s_lv (lv1 := [(0, .ref (ad 0)), (3, .int j5), (4, .int (0 : Int32)), (5, .int j3)]) [3, 2, 1, 0] rfl ?_
          refine s_loop (α := Int32 × Int32) (fun n v12 => f_X5_can_50 j5 n_left refusals n v12.1 v12.2) 50 (fun v12 => [(0, .ref (ad 0)), (3, .int j5), (4, .int v12.1), (5, .int v12.2)]) (fun v12 => (wX ad kc cI tolds hasImage n_heirs n_left n_bitten n_kinds n_figures k_heirs k_left k_bitten k_kinds k_figures t_heirs t_left t_bitten t_kinds t_figures r_gone r_heaps r_fewestCells r_deed c_ways c_fewest c_nextWays c_nextFewest x_length x_letters told refusals ends)) 1000 ((0 : Int32), j3) hf (fun v12 hf => by simp only [f_X5_can_50] at hf; exact absurd hf (by simp)) (fun n ih13 v12 hf => ?_)
          replace hf := (f_X5_can_50_s _ _ _ _ _ _).symm.trans hf
          refine s_iload C 52 3 rfl dX5_can_50 rfl ?_
          refine s_iload_n C 53 1 rfl dX5_can_52 rfl ?_
          refine s_icmp_ge C 87 56 rfl dX5_can_53 rfl (fun hc18 => ?_) (fun hc18 => ?_)
          · replace hf := ite_t hc18 hf
            refine s_iload C 89 2 rfl dX5_can_87 rfl ?_
            obtain rfl := Option.some.inj hf
            exact s_iret C kc hr hlk rfl rfl dX5_can_89
          · replace hf := ite_f hc18 hf
            refine s_iload C 58 3 rfl dX5_can_56 rfl ?_
            refine s_aload_n C 59 0 rfl dX5_can_58 rfl ?_
            refine s_get (C1 := RX5) (T := TX5) (N := 11) (ci := 4) C 62 0 0 uX5 rfl rfl (Nat.le_of_ble_eq_true rfl) uu130 rfl rfl rfl dX5_can_59 ?_
            refine s_get (C1 := RX0) (T := TX0) (N := 5) (ci := 0) C 65 1 3 uX0 rfl rfl (Nat.le_of_ble_eq_true rfl) uu53 rfl rfl rfl dX5_can_62 ?_
            obtain ⟨r14, q15, hf⟩ := bn_s hf
            refine s_callS0 (host := "") (rest := []) C 68 (c_X2_behind l D cI adK adV v12.2 n_left r14 q15) (gS uu657 uu659 uu14 uu660) hd_X2_behind rfl ⟨rfl, rfl⟩ ⟨Nat.le_of_ble_eq_true rfl, Nat.le_of_ble_eq_true rfl⟩ ⟨Nat.le_of_ble_eq_true rfl, Nat.le_of_ble_eq_true rfl⟩ rfl (Nat.le_of_ble_eq_true rfl) rfl dX5_can_65 ?_
            refine s_aload_n C 69 0 rfl dX5_can_68 rfl ?_
            refine s_get (C1 := RX5) (T := TX5) (N := 11) (ci := 4) C 72 0 0 uX5 rfl rfl (Nat.le_of_ble_eq_true rfl) uu130 rfl rfl rfl dX5_can_69 ?_
            refine s_get (C1 := RX0) (T := TX0) (N := 5) (ci := 0) C 75 1 3 uX0 rfl rfl (Nat.le_of_ble_eq_true rfl) uu53 rfl rfl rfl dX5_can_72 ?_
            refine s_jn (α := Int32) 81 (fun j16 => [(0, .ref (ad 0)), (3, .int j5), (4, .int j16), (5, .int v12.2)]) (fun j16 => []) (fun j16 => (wX ad kc cI tolds hasImage n_heirs n_left n_bitten n_kinds n_figures k_heirs k_left k_bitten k_kinds k_figures t_heirs t_left t_bitten t_kinds t_figures r_gone r_heaps r_fewestCells r_deed c_ways c_fewest c_nextWays c_nextFewest x_length x_letters told refusals ends)) hf (fun j16 hf => ?_) (fun hj hf => ?_)
            · refine s_iinc (lv1 := [(5, .int (v12.2 + (1 : Int32))), (0, .ref (ad 0)), (3, .int j5), (4, .int j16)]) C 84 5 3 rfl dX5_can_81 rfl ic_1 (Nat.le_of_ble_eq_true rfl) rfl ?_
              refine s_goto C 50 dX5_can_84 rfl ?_
              exact s_lv [1, 2, 3, 0] rfl (ih13 ((j16, v12.2 + (1 : Int32)) : Int32 × Int32) hf)
            · refine s_icmp_eq C 81 78 rfl dX5_can_75 rfl (fun hc17 => ?_) (fun hc17 => ?_)
              · replace hf := jn_t hc17 hf
                replace hf := jn_i hf
                exact s_lv [0, 1, 2, 3] rfl (hj (v12.1 : Int32) hf)
              · replace hf := jn_f hc17 hf
                refine s_iinc (lv1 := [(4, .int (v12.1 + (1 : Int32))), (0, .ref (ad 0)), (3, .int j5), (5, .int v12.2)]) C 81 4 2 rfl dX5_can_78 rfl ic_1 (Nat.le_of_ble_eq_true rfl) rfl ?_
                replace hf := jn_i hf
                exact s_lv [1, 2, 0, 3] rfl (hj (v12.1 + (1 : Int32) : Int32) hf)
        · refine s_if_ge C 39 34 rfl dX5_can_31 rfl (fun hc6 => ?_) (fun hc6 => ?_)
          · replace hf := jn_t hc6 hf
            refine s_iload_n C 40 0 rfl dX5_can_39 rfl ?_
            refine s_bipush C 42 rfl dX5_can_40 bp_25 ?_
            refine s_iadd C 43 rfl dX5_can_42 ?_
            replace hf := jn_i hf
            exact s_lv [1, 0] rfl (hj (j3 + (25 : Int32) : Int32) hf)
          · replace hf := jn_f hc6 hf
            refine s_bipush C 36 rfl dX5_can_34 bp_100 ?_
            refine s_goto C 43 dX5_can_36 rfl ?_
            replace hf := jn_i hf
            exact s_lv [1, 0] rfl (hj ((100 : Int32) : Int32) hf)
      · refine s_if_ge C 25 21 rfl dX5_can_18 rfl (fun hc4 => ?_) (fun hc4 => ?_)
        · replace hf := jn_t hc4 hf
          refine s_iload_n C 26 1 rfl dX5_can_25 rfl ?_
          refine s_bipush C 28 rfl dX5_can_26 bp_25 ?_
          refine s_imul C 29 rfl dX5_can_28 ?_
          replace hf := jn_i hf
          exact s_lv [0, 1] rfl (hj (a1 * (25 : Int32) : Int32) hf)
        · replace hf := jn_f hc4 hf
          refine s_iconst C 22 rfl dX5_can_21 ic_0 ?_
          refine s_goto C 29 dX5_can_22 rfl ?_
          replace hf := jn_i hf
          exact s_lv [0, 1] rfl (hj ((0 : Int32) : Int32) hf)
    · replace hf := ite_f hc21 hf
      refine s_aload_n C 11 0 rfl dX5_can_10 rfl ?_
      refine s_bipush C 13 rfl dX5_can_11 bp_m2 ?_
      obtain ⟨r19, q20, hf⟩ := bn_s hf
      refine s_callW (T := TX5) (N := 11) (ci := 4) (q0 := 0) (rest := []) C 16 (c_X5_refused l D cI adK adV ad kc tolds hasImage n_heirs n_left n_bitten n_kinds n_figures k_heirs k_left k_bitten k_kinds k_figures t_heirs t_left t_bitten t_kinds t_figures r_gone r_heaps r_fewestCells r_deed c_ways c_fewest c_nextWays c_nextFewest x_length x_letters told refusals ends (-2 : Int32) r19 q20) (gV uu169 uu171 uu1541 uu1 uu172) hd_X5_refused rfl ⟨rfl, rfl⟩ ⟨Nat.le_of_ble_eq_true rfl, Nat.le_of_ble_eq_true rfl⟩ ⟨Nat.le_of_ble_eq_true rfl, Nat.le_of_ble_eq_true rfl⟩ rfl rfl rfl (Nat.le_of_ble_eq_true rfl) rfl dX5_can_13 (fun _ => ?_)
      obtain rfl := Option.some.inj hf
      exact s_iret C kc hr hlk rfl rfl dX5_can_16


theorem hd_X5_alike : yX5_alike.cls = RX5 ∧ yX5_alike.cls ≠ "java/lang/invoke/MethodHandle" ∧ yX5_alike.cls ≠ "java/lang/invoke/VarHandle" ∧ (parseMethodDescriptor yX5_alike.desc).map (fun d => d.parameters.length) = some 1 := by decide +kernel
set_option maxHeartbeats 4000000 in
set_option maxRecDepth 100000 in
theorem c_X5_alike (l : Launch) (D : va_G) (cI : ClassId) (adK adV : Nat → Nat) (ad : Nat → Nat) (kc : Nat → Nat) (tolds : Int32) (hasImage : Int32) (n_heirs : Int32) (n_left : Int32) (n_bitten : Int32) (n_kinds : (Nat → Int32)) (n_figures : (Nat → Int32)) (k_heirs : Int32) (k_left : Int32) (k_bitten : Int32) (k_kinds : (Nat → Int32)) (k_figures : (Nat → Int32)) (t_heirs : Int32) (t_left : Int32) (t_bitten : Int32) (t_kinds : (Nat → Int32)) (t_figures : (Nat → Int32)) (r_gone : Int32) (r_heaps : Int32) (r_fewestCells : Int32) (r_deed : Int32) (c_ways : (Nat → Int32)) (c_fewest : (Nat → Int32)) (c_nextWays : (Nat → Int32)) (c_nextFewest : (Nat → Int32)) (x_length : Int32) (x_letters : (Nat → Int32)) (told : (Nat → Int32)) (refusals : (Nat → Int32)) (ends : (Nat → Int32)) (a1 : Int32) (o : Int32 × (Nat → Int32)) (hf : f_X5_alike n_left refusals a1 = some o) : Ct l D cI adK adV yX5_alike (wy yX5_alike cX5_alike 5 (some .int)) { frames := 1, cells := 0, slots := 0, locals := 24 } 0 0 [.ref (ad 0), .int a1] (wX ad kc cI tolds hasImage n_heirs n_left n_bitten n_kinds n_figures k_heirs k_left k_bitten k_kinds k_figures t_heirs t_left t_bitten t_kinds t_figures r_gone r_heaps r_fewestCells r_deed c_ways c_fewest c_nextWays c_nextFewest x_length x_letters told refusals ends) (fun _ => (wX ad kc cI tolds hasImage n_heirs n_left n_bitten n_kinds n_figures k_heirs k_left k_bitten k_kinds k_figures t_heirs t_left t_bitten t_kinds t_figures r_gone r_heaps r_fewestCells r_deed c_ways c_fewest c_nextWays c_nextFewest x_length x_letters told o.2 ends)) (some (.int o.1)) := by
  refine Ct.of (cc := cX5_alike) (nL := 5) (ret := (some .int)) (own := RX5) (by decide) (Nat.le_of_ble_eq_true rfl) rfl ?_
  intro p e s m args below meth c A C hr hlk hnm
  refine s_lv (lv1 := [(0, .ref (ad 0)), (1, .int a1)]) [0, 1] rfl ?_
  unfold f_X5_alike at hf
  refine s_iload_n C 1 1 rfl dX5_alike_0 rfl ?_
  obtain ⟨r1, q2, hf⟩ := bn_s hf
  refine s_callS0 (host := "") (rest := []) C 4 (c_X5_isTwofold l D cI adK adV a1 r1 q2) (gS uu601 uu603 uu1 uu604) hd_X5_isTwofold rfl ⟨rfl, rfl⟩ ⟨Nat.le_of_ble_eq_true rfl, Nat.le_of_ble_eq_true rfl⟩ ⟨Nat.le_of_ble_eq_true rfl, Nat.le_of_ble_eq_true rfl⟩ rfl (Nat.le_of_ble_eq_true rfl) rfl dX5_alike_1 ?_
  refine s_if_ne C 14 7 rfl dX5_alike_4 rfl (fun hc14 => ?_) (fun hc14 => ?_)
  · replace hf := ite_f hc14 hf
    refine s_aload_n C 15 0 rfl dX5_alike_14 rfl ?_
    refine s_get (C1 := RX5) (T := TX5) (N := 11) (ci := 4) C 18 0 0 uX5 rfl rfl (Nat.le_of_ble_eq_true rfl) uu130 rfl rfl rfl dX5_alike_15 ?_
    refine s_get (C1 := RX0) (T := TX0) (N := 5) (ci := 0) C 21 1 3 uX0 rfl rfl (Nat.le_of_ble_eq_true rfl) uu53 rfl rfl rfl dX5_alike_18 ?_
    obtain ⟨r3, q4, hf⟩ := bn_s hf
    refine s_callS0 (host := "") (rest := []) C 24 (c_X2_turned l D cI adK adV n_left r3 q4) (gS uu720 uu452 uu14 uu453) hd_X2_turned rfl ⟨rfl, rfl⟩ ⟨Nat.le_of_ble_eq_true rfl, Nat.le_of_ble_eq_true rfl⟩ ⟨Nat.le_of_ble_eq_true rfl, Nat.le_of_ble_eq_true rfl⟩ rfl (Nat.le_of_ble_eq_true rfl) rfl dX5_alike_21 ?_
    refine s_istore_n (lv1 := [(2, .int r3), (0, .ref (ad 0)), (1, .int a1)]) C 25 2 rfl dX5_alike_24 rfl (Nat.le_of_ble_eq_true rfl) rfl ?_
    refine s_iload_n C 26 0 rfl dX5_alike_25 rfl ?_
    obtain ⟨r5, q6, hf⟩ := bn_s hf
    refine s_callS0 (host := "") (rest := []) C 29 (c_X2_turned l D cI adK adV r3 r5 q6) (gS uu720 uu452 uu14 uu453) hd_X2_turned rfl ⟨rfl, rfl⟩ ⟨Nat.le_of_ble_eq_true rfl, Nat.le_of_ble_eq_true rfl⟩ ⟨Nat.le_of_ble_eq_true rfl, Nat.le_of_ble_eq_true rfl⟩ rfl (Nat.le_of_ble_eq_true rfl) rfl dX5_alike_26 ?_
    refine s_istore_n (lv1 := [(3, .int r5), (2, .int r3), (0, .ref (ad 0)), (1, .int a1)]) C 30 3 rfl dX5_alike_29 rfl (Nat.le_of_ble_eq_true rfl) rfl ?_
    refine s_iload_n C 31 0 rfl dX5_alike_30 rfl ?_
    obtain ⟨r7, q8, hf⟩ := bn_s hf
    refine s_callS0 (host := "") (rest := []) C 34 (c_X2_turned l D cI adK adV r5 r7 q8) (gS uu720 uu452 uu14 uu453) hd_X2_turned rfl ⟨rfl, rfl⟩ ⟨Nat.le_of_ble_eq_true rfl, Nat.le_of_ble_eq_true rfl⟩ ⟨Nat.le_of_ble_eq_true rfl, Nat.le_of_ble_eq_true rfl⟩ rfl (Nat.le_of_ble_eq_true rfl) rfl dX5_alike_31 ?_
    refine s_istore (lv1 := [(4, .int r7), (3, .int r5), (2, .int r3), (0, .ref (ad 0)), (1, .int a1)]) C 36 4 rfl dX5_alike_34 (Nat.le_of_ble_eq_true rfl) rfl ?_
    refine s_iload_n C 37 4 rfl dX5_alike_36 rfl ?_
    refine s_iconst C 38 rfl dX5_alike_37 ic_1 ?_
    refine s_icmp_ne C 62 41 rfl dX5_alike_38 rfl (fun hc11 => ?_) (fun hc11 => ?_)
    · replace hf := ite_f hc11 hf
      refine s_iload_n C 63 2 rfl dX5_alike_62 rfl ?_
      refine s_aload_n C 64 3 rfl dX5_alike_63 rfl ?_
      refine s_get (C1 := RX5) (T := TX5) (N := 11) (ci := 4) C 67 0 0 uX5 rfl rfl (Nat.le_of_ble_eq_true rfl) uu130 rfl rfl rfl dX5_alike_64 ?_
      refine s_get (C1 := RX0) (T := TX0) (N := 5) (ci := 0) C 70 1 3 uX0 rfl rfl (Nat.le_of_ble_eq_true rfl) uu53 rfl rfl rfl dX5_alike_67 ?_
      refine s_icmp_ne C 75 73 rfl dX5_alike_70 rfl (fun hc10 => ?_) (fun hc10 => ?_)
      · replace hf := ite_f hc10 hf
        refine s_iload_n C 76 1 rfl dX5_alike_75 rfl ?_
        refine s_aload_n C 77 3 rfl dX5_alike_76 rfl ?_
        refine s_get (C1 := RX5) (T := TX5) (N := 11) (ci := 4) C 80 0 0 uX5 rfl rfl (Nat.le_of_ble_eq_true rfl) uu130 rfl rfl rfl dX5_alike_77 ?_
        refine s_get (C1 := RX0) (T := TX0) (N := 5) (ci := 0) C 83 1 3 uX0 rfl rfl (Nat.le_of_ble_eq_true rfl) uu53 rfl rfl rfl dX5_alike_80 ?_
        refine s_icmp_ne C 90 86 rfl dX5_alike_83 rfl (fun hc9 => ?_) (fun hc9 => ?_)
        · replace hf := ite_f hc9 hf
          refine s_iconst C 91 rfl dX5_alike_90 ic_4 ?_
          obtain rfl := Option.some.inj hf
          exact s_iret C kc hr hlk rfl rfl dX5_alike_91
        · replace hf := ite_t hc9 hf
          refine s_iconst C 87 rfl dX5_alike_86 ic_2 ?_
          refine s_goto C 91 dX5_alike_87 rfl ?_
          obtain rfl := Option.some.inj hf
          exact s_iret C kc hr hlk rfl rfl dX5_alike_91
      · replace hf := ite_t hc10 hf
        refine s_iconst C 74 rfl dX5_alike_73 ic_1 ?_
        obtain rfl := Option.some.inj hf
        exact s_iret C kc hr hlk rfl rfl dX5_alike_74
    · replace hf := ite_t hc11 hf
      refine s_aload_n C 42 3 rfl dX5_alike_41 rfl ?_
      refine s_get (C1 := RX5) (T := TX5) (N := 11) (ci := 4) C 45 0 0 uX5 rfl rfl (Nat.le_of_ble_eq_true rfl) uu130 rfl rfl rfl dX5_alike_42 ?_
      refine s_get (C1 := RX0) (T := TX0) (N := 5) (ci := 0) C 48 1 3 uX0 rfl rfl (Nat.le_of_ble_eq_true rfl) uu53 rfl rfl rfl dX5_alike_45 ?_
      refine s_iload_n C 49 2 rfl dX5_alike_48 rfl ?_
      refine s_mmin C 52 uu722 uu315 uu11 uu316 ⟨Nat.le_of_ble_eq_true rfl, Nat.le_of_ble_eq_true rfl, Nat.le_of_ble_eq_true rfl, Nat.le_of_ble_eq_true rfl⟩ rfl dX5_alike_49 ?_
      refine s_iload_n C 53 1 rfl dX5_alike_52 rfl ?_
      refine s_iload C 55 0 rfl dX5_alike_53 rfl ?_
      refine s_mmin C 58 uu722 uu315 uu11 uu316 ⟨Nat.le_of_ble_eq_true rfl, Nat.le_of_ble_eq_true rfl, Nat.le_of_ble_eq_true rfl, Nat.le_of_ble_eq_true rfl⟩ rfl dX5_alike_55 ?_
      refine s_mmin C 61 uu722 uu315 uu11 uu316 ⟨Nat.le_of_ble_eq_true rfl, Nat.le_of_ble_eq_true rfl, Nat.le_of_ble_eq_true rfl, Nat.le_of_ble_eq_true rfl⟩ rfl dX5_alike_58 ?_
      obtain rfl := Option.some.inj hf
      exact s_iret C kc hr hlk rfl rfl dX5_alike_61
  · replace hf := ite_t hc14 hf
    refine s_aload_n C 8 0 rfl dX5_alike_7 rfl ?_
    refine s_bipush C 10 rfl dX5_alike_8 bp_m2 ?_
    obtain ⟨r12, q13, hf⟩ := bn_s hf
    refine s_callW (T := TX5) (N := 11) (ci := 4) (q0 := 0) (rest := []) C 13 (c_X5_refused l D cI adK adV ad kc tolds hasImage n_heirs n_left n_bitten n_kinds n_figures k_heirs k_left k_bitten k_kinds k_figures t_heirs t_left t_bitten t_kinds t_figures r_gone r_heaps r_fewestCells r_deed c_ways c_fewest c_nextWays c_nextFewest x_length x_letters told refusals ends (-2 : Int32) r12 q13) (gV uu169 uu171 uu1541 uu1 uu172) hd_X5_refused rfl ⟨rfl, rfl⟩ ⟨Nat.le_of_ble_eq_true rfl, Nat.le_of_ble_eq_true rfl⟩ ⟨Nat.le_of_ble_eq_true rfl, Nat.le_of_ble_eq_true rfl⟩ rfl rfl rfl (Nat.le_of_ble_eq_true rfl) rfl dX5_alike_10 (fun _ => ?_)
    obtain rfl := Option.some.inj hf
    exact s_iret C kc hr hlk rfl rfl dX5_alike_13


theorem hd_X5_pips : yX5_pips.cls = RX5 ∧ yX5_pips.cls ≠ "java/lang/invoke/MethodHandle" ∧ yX5_pips.cls ≠ "java/lang/invoke/VarHandle" ∧ (parseMethodDescriptor yX5_pips.desc).map (fun d => d.parameters.length) = some 1 := by decide +kernel
set_option maxHeartbeats 4000000 in
set_option maxRecDepth 100000 in
theorem c_X5_pips (l : Launch) (D : va_G) (cI : ClassId) (adK adV : Nat → Nat) (ad : Nat → Nat) (kc : Nat → Nat) (tolds : Int32) (hasImage : Int32) (n_heirs : Int32) (n_left : Int32) (n_bitten : Int32) (n_kinds : (Nat → Int32)) (n_figures : (Nat → Int32)) (k_heirs : Int32) (k_left : Int32) (k_bitten : Int32) (k_kinds : (Nat → Int32)) (k_figures : (Nat → Int32)) (t_heirs : Int32) (t_left : Int32) (t_bitten : Int32) (t_kinds : (Nat → Int32)) (t_figures : (Nat → Int32)) (r_gone : Int32) (r_heaps : Int32) (r_fewestCells : Int32) (r_deed : Int32) (c_ways : (Nat → Int32)) (c_fewest : (Nat → Int32)) (c_nextWays : (Nat → Int32)) (c_nextFewest : (Nat → Int32)) (x_length : Int32) (x_letters : (Nat → Int32)) (told : (Nat → Int32)) (refusals : (Nat → Int32)) (ends : (Nat → Int32)) (a1 : Int32) (o : Int32 × (Nat → Int32)) (hf : f_X5_pips n_left refusals a1 = some o) : Ct l D cI adK adV yX5_pips (wy yX5_pips cX5_pips 2 (some .int)) { frames := 1, cells := 0, slots := 0, locals := 21 } 0 0 [.ref (ad 0), .int a1] (wX ad kc cI tolds hasImage n_heirs n_left n_bitten n_kinds n_figures k_heirs k_left k_bitten k_kinds k_figures t_heirs t_left t_bitten t_kinds t_figures r_gone r_heaps r_fewestCells r_deed c_ways c_fewest c_nextWays c_nextFewest x_length x_letters told refusals ends) (fun _ => (wX ad kc cI tolds hasImage n_heirs n_left n_bitten n_kinds n_figures k_heirs k_left k_bitten k_kinds k_figures t_heirs t_left t_bitten t_kinds t_figures r_gone r_heaps r_fewestCells r_deed c_ways c_fewest c_nextWays c_nextFewest x_length x_letters told o.2 ends)) (some (.int o.1)) := by
  refine Ct.of (cc := cX5_pips) (nL := 2) (ret := (some .int)) (own := RX5) (by decide) (Nat.le_of_ble_eq_true rfl) rfl ?_
  intro p e s m args below meth c A C hr hlk hnm
  refine s_lv (lv1 := [(0, .ref (ad 0)), (1, .int a1)]) [0, 1] rfl ?_
  unfold f_X5_pips at hf
  refine s_iload_n C 1 1 rfl dX5_pips_0 rfl ?_
  obtain ⟨r1, q2, hf⟩ := bn_s hf
  refine s_callS0 (host := "") (rest := []) C 4 (c_X5_isTwofold l D cI adK adV a1 r1 q2) (gS uu601 uu603 uu1 uu604) hd_X5_isTwofold rfl ⟨rfl, rfl⟩ ⟨Nat.le_of_ble_eq_true rfl, Nat.le_of_ble_eq_true rfl⟩ ⟨Nat.le_of_ble_eq_true rfl, Nat.le_of_ble_eq_true rfl⟩ rfl (Nat.le_of_ble_eq_true rfl) rfl dX5_pips_1 ?_
  refine s_if_ne C 14 7 rfl dX5_pips_4 rfl (fun hc10 => ?_) (fun hc10 => ?_)
  · replace hf := ite_f hc10 hf
    refine s_aload_n C 15 0 rfl dX5_pips_14 rfl ?_
    refine s_get (C1 := RX5) (T := TX5) (N := 11) (ci := 4) C 18 0 0 uX5 rfl rfl (Nat.le_of_ble_eq_true rfl) uu130 rfl rfl rfl dX5_pips_15 ?_
    refine s_get (C1 := RX0) (T := TX0) (N := 5) (ci := 0) C 21 1 3 uX0 rfl rfl (Nat.le_of_ble_eq_true rfl) uu53 rfl rfl rfl dX5_pips_18 ?_
    refine s_iload_n C 22 1 rfl dX5_pips_21 rfl ?_
    refine s_if_ne C 31 25 rfl dX5_pips_22 rfl (fun hc7 => ?_) (fun hc7 => ?_)
    · replace hf := ite_f hc7 hf
      refine s_iconst C 32 rfl dX5_pips_31 ic_4 ?_
      refine s_iand C 33 rfl dX5_pips_32 ?_
      obtain ⟨r3, q4, hf⟩ := bn_s hf
      refine s_callS0 (host := "") (rest := []) C 36 (c_J6_bitCount_0f7a4 l D cI adK adV (n_left &&& (4 : Int32)) r3 q4) (gS uu487 uu489 uu15 uu490) hd_J6_bitCount_0f7a4 rfl ⟨rfl, rfl⟩ ⟨Nat.le_of_ble_eq_true rfl, Nat.le_of_ble_eq_true rfl⟩ ⟨Nat.le_of_ble_eq_true rfl, Nat.le_of_ble_eq_true rfl⟩ rfl (Nat.le_of_ble_eq_true rfl) rfl dX5_pips_33 ?_
      obtain rfl := Option.some.inj hf
      exact s_iret C kc hr hlk rfl rfl dX5_pips_36
    · replace hf := ite_t hc7 hf
      refine s_sipush C 28 rfl dX5_pips_25 sp_14336 ?_
      refine s_goto C 32 dX5_pips_28 rfl ?_
      refine s_iand C 33 rfl dX5_pips_32 ?_
      obtain ⟨r5, q6, hf⟩ := bn_s hf
      refine s_callS0 (host := "") (rest := []) C 36 (c_J6_bitCount_0f7a4 l D cI adK adV (n_left &&& (14336 : Int32)) r5 q6) (gS uu487 uu489 uu15 uu490) hd_J6_bitCount_0f7a4 rfl ⟨rfl, rfl⟩ ⟨Nat.le_of_ble_eq_true rfl, Nat.le_of_ble_eq_true rfl⟩ ⟨Nat.le_of_ble_eq_true rfl, Nat.le_of_ble_eq_true rfl⟩ rfl (Nat.le_of_ble_eq_true rfl) rfl dX5_pips_33 ?_
      obtain rfl := Option.some.inj hf
      exact s_iret C kc hr hlk rfl rfl dX5_pips_36
  · replace hf := ite_t hc10 hf
    refine s_aload_n C 8 0 rfl dX5_pips_7 rfl ?_
    refine s_bipush C 10 rfl dX5_pips_8 bp_m2 ?_
    obtain ⟨r8, q9, hf⟩ := bn_s hf
    refine s_callW (T := TX5) (N := 11) (ci := 4) (q0 := 0) (rest := []) C 13 (c_X5_refused l D cI adK adV ad kc tolds hasImage n_heirs n_left n_bitten n_kinds n_figures k_heirs k_left k_bitten k_kinds k_figures t_heirs t_left t_bitten t_kinds t_figures r_gone r_heaps r_fewestCells r_deed c_ways c_fewest c_nextWays c_nextFewest x_length x_letters told refusals ends (-2 : Int32) r8 q9) (gV uu169 uu171 uu1541 uu1 uu172) hd_X5_refused rfl ⟨rfl, rfl⟩ ⟨Nat.le_of_ble_eq_true rfl, Nat.le_of_ble_eq_true rfl⟩ ⟨Nat.le_of_ble_eq_true rfl, Nat.le_of_ble_eq_true rfl⟩ rfl rfl rfl (Nat.le_of_ble_eq_true rfl) rfl dX5_pips_10 (fun _ => ?_)
    obtain rfl := Option.some.inj hf
    exact s_iret C kc hr hlk rfl rfl dX5_pips_13


theorem hd_X5_join : yX5_join.cls = RX5 ∧ yX5_join.cls ≠ "java/lang/invoke/MethodHandle" ∧ yX5_join.cls ≠ "java/lang/invoke/VarHandle" ∧ (parseMethodDescriptor yX5_join.desc).map (fun d => d.parameters.length) = some 1 := by decide +kernel
set_option maxHeartbeats 4000000 in
set_option maxRecDepth 100000 in
theorem c_X5_join (l : Launch) (D : va_G) (cI : ClassId) (adK adV : Nat → Nat) (ad : Nat → Nat) (kc : Nat → Nat) (tolds : Int32) (hasImage : Int32) (n_heirs : Int32) (n_left : Int32) (n_bitten : Int32) (n_kinds : (Nat → Int32)) (n_figures : (Nat → Int32)) (k_heirs : Int32) (k_left : Int32) (k_bitten : Int32) (k_kinds : (Nat → Int32)) (k_figures : (Nat → Int32)) (t_heirs : Int32) (t_left : Int32) (t_bitten : Int32) (t_kinds : (Nat → Int32)) (t_figures : (Nat → Int32)) (r_gone : Int32) (r_heaps : Int32) (r_fewestCells : Int32) (r_deed : Int32) (c_ways : (Nat → Int32)) (c_fewest : (Nat → Int32)) (c_nextWays : (Nat → Int32)) (c_nextFewest : (Nat → Int32)) (x_length : Int32) (x_letters : (Nat → Int32)) (told : (Nat → Int32)) (refusals : (Nat → Int32)) (ends : (Nat → Int32)) (a1 : Int32) (o : Int32 × (Nat → Int32)) (hf : f_X5_join n_left refusals a1 = some o) : Ct l D cI adK adV yX5_join (wy yX5_join cX5_join 2 (some .int)) { frames := 3, cells := 0, slots := 0, locals := 68 } 0 0 [.ref (ad 0), .int a1] (wX ad kc cI tolds hasImage n_heirs n_left n_bitten n_kinds n_figures k_heirs k_left k_bitten k_kinds k_figures t_heirs t_left t_bitten t_kinds t_figures r_gone r_heaps r_fewestCells r_deed c_ways c_fewest c_nextWays c_nextFewest x_length x_letters told refusals ends) (fun _ => (wX ad kc cI tolds hasImage n_heirs n_left n_bitten n_kinds n_figures k_heirs k_left k_bitten k_kinds k_figures t_heirs t_left t_bitten t_kinds t_figures r_gone r_heaps r_fewestCells r_deed c_ways c_fewest c_nextWays c_nextFewest x_length x_letters told o.2 ends)) (some (.int o.1)) := by
  refine Ct.of (cc := cX5_join) (nL := 2) (ret := (some .int)) (own := RX5) (by decide) (Nat.le_of_ble_eq_true rfl) rfl ?_
  intro p e s m args below meth c A C hr hlk hnm
  refine s_lv (lv1 := [(0, .ref (ad 0)), (1, .int a1)]) [0, 1] rfl ?_
  unfold f_X5_join at hf
  refine s_iload_n C 1 1 rfl dX5_join_0 rfl ?_
  obtain ⟨r1, q2, hf⟩ := bn_s hf
  refine s_callS0 (host := "") (rest := []) C 4 (c_X5_isCell l D cI adK adV a1 r1 q2) (gS uu474 uu432 uu1 uu433) hd_X5_isCell rfl ⟨rfl, rfl⟩ ⟨Nat.le_of_ble_eq_true rfl, Nat.le_of_ble_eq_true rfl⟩ ⟨Nat.le_of_ble_eq_true rfl, Nat.le_of_ble_eq_true rfl⟩ rfl (Nat.le_of_ble_eq_true rfl) rfl dX5_join_1 ?_
  refine s_if_ne C 13 7 rfl dX5_join_4 rfl (fun hc12 => ?_) (fun hc12 => ?_)
  · replace hf := ite_f hc12 hf
    refine s_aload_n C 14 0 rfl dX5_join_13 rfl ?_
    refine s_iload_n C 15 1 rfl dX5_join_14 rfl ?_
    obtain ⟨r3, q4, hf⟩ := bn_s hf
    refine s_callW (T := TX5) (N := 11) (ci := 4) (q0 := 0) (rest := []) C 18 (c_X5_isLeft l D cI adK adV ad kc tolds hasImage n_heirs n_left n_bitten n_kinds n_figures k_heirs k_left k_bitten k_kinds k_figures t_heirs t_left t_bitten t_kinds t_figures r_gone r_heaps r_fewestCells r_deed c_ways c_fewest c_nextWays c_nextFewest x_length x_letters told refusals ends a1 r3 q4) (gV uu566 uu568 uu1550 uu1 uu569) hd_X5_isLeft rfl ⟨rfl, rfl⟩ ⟨Nat.le_of_ble_eq_true rfl, Nat.le_of_ble_eq_true rfl⟩ ⟨Nat.le_of_ble_eq_true rfl, Nat.le_of_ble_eq_true rfl⟩ rfl rfl rfl (Nat.le_of_ble_eq_true rfl) rfl dX5_join_15 (fun _ => ?_)
    refine s_if_eq C 28 21 rfl dX5_join_18 rfl (fun hc9 => ?_) (fun hc9 => ?_)
    · replace hf := ite_t hc9 hf
      refine s_aload_n C 29 0 rfl dX5_join_28 rfl ?_
      refine s_get (C1 := RX5) (T := TX5) (N := 11) (ci := 4) C 32 0 0 uX5 rfl rfl (Nat.le_of_ble_eq_true rfl) uu130 rfl rfl rfl dX5_join_29 ?_
      refine s_get (C1 := RX0) (T := TX0) (N := 5) (ci := 0) C 35 1 3 uX0 rfl rfl (Nat.le_of_ble_eq_true rfl) uu53 rfl rfl rfl dX5_join_32 ?_
      refine s_iconst C 36 rfl dX5_join_35 ic_1 ?_
      refine s_iload_n C 37 1 rfl dX5_join_36 rfl ?_
      refine s_ishl C 38 rfl dX5_join_37 ?_
      refine s_ior C 39 rfl dX5_join_38 ?_
      obtain ⟨r5, q6, hf⟩ := bn_s hf
      refine s_callS0 (host := "") (rest := []) C 42 (c_X2_heapsOf l D cI adK adV (n_left ||| (jshl (1 : Int32) a1)) r5 q6) (gS uu757 uu759 uu14 uu760) hd_X2_heapsOf rfl ⟨rfl, rfl⟩ ⟨Nat.le_of_ble_eq_true rfl, Nat.le_of_ble_eq_true rfl⟩ ⟨Nat.le_of_ble_eq_true rfl, Nat.le_of_ble_eq_true rfl⟩ rfl (Nat.le_of_ble_eq_true rfl) rfl dX5_join_39 ?_
      obtain rfl := Option.some.inj hf
      exact s_iret C kc hr hlk rfl rfl dX5_join_42
    · replace hf := ite_f hc9 hf
      refine s_aload_n C 22 0 rfl dX5_join_21 rfl ?_
      refine s_bipush C 24 rfl dX5_join_22 bp_m3 ?_
      obtain ⟨r7, q8, hf⟩ := bn_s hf
      refine s_callW (T := TX5) (N := 11) (ci := 4) (q0 := 0) (rest := []) C 27 (c_X5_refused l D cI adK adV ad kc tolds hasImage n_heirs n_left n_bitten n_kinds n_figures k_heirs k_left k_bitten k_kinds k_figures t_heirs t_left t_bitten t_kinds t_figures r_gone r_heaps r_fewestCells r_deed c_ways c_fewest c_nextWays c_nextFewest x_length x_letters told refusals ends (-3 : Int32) r7 q8) (gV uu169 uu171 uu1541 uu1 uu172) hd_X5_refused rfl ⟨rfl, rfl⟩ ⟨Nat.le_of_ble_eq_true rfl, Nat.le_of_ble_eq_true rfl⟩ ⟨Nat.le_of_ble_eq_true rfl, Nat.le_of_ble_eq_true rfl⟩ rfl rfl rfl (Nat.le_of_ble_eq_true rfl) rfl dX5_join_24 (fun _ => ?_)
      obtain rfl := Option.some.inj hf
      exact s_iret C kc hr hlk rfl rfl dX5_join_27
  · replace hf := ite_t hc12 hf
    refine s_aload_n C 8 0 rfl dX5_join_7 rfl ?_
    refine s_iconst C 9 rfl dX5_join_8 ic_m1 ?_
    obtain ⟨r10, q11, hf⟩ := bn_s hf
    refine s_callW (T := TX5) (N := 11) (ci := 4) (q0 := 0) (rest := []) C 12 (c_X5_refused l D cI adK adV ad kc tolds hasImage n_heirs n_left n_bitten n_kinds n_figures k_heirs k_left k_bitten k_kinds k_figures t_heirs t_left t_bitten t_kinds t_figures r_gone r_heaps r_fewestCells r_deed c_ways c_fewest c_nextWays c_nextFewest x_length x_letters told refusals ends (-1 : Int32) r10 q11) (gV uu169 uu171 uu1541 uu1 uu172) hd_X5_refused rfl ⟨rfl, rfl⟩ ⟨Nat.le_of_ble_eq_true rfl, Nat.le_of_ble_eq_true rfl⟩ ⟨Nat.le_of_ble_eq_true rfl, Nat.le_of_ble_eq_true rfl⟩ rfl rfl rfl (Nat.le_of_ble_eq_true rfl) rfl dX5_join_9 (fun _ => ?_)
    obtain rfl := Option.some.inj hf
    exact s_iret C kc hr hlk rfl rfl dX5_join_12


theorem hd_X5_bridge : yX5_bridge.cls = RX5 ∧ yX5_bridge.cls ≠ "java/lang/invoke/MethodHandle" ∧ yX5_bridge.cls ≠ "java/lang/invoke/VarHandle" ∧ (parseMethodDescriptor yX5_bridge.desc).map (fun d => d.parameters.length) = some 1 := by decide +kernel
set_option maxHeartbeats 4000000 in
set_option maxRecDepth 100000 in
theorem c_X5_bridge (l : Launch) (D : va_G) (cI : ClassId) (adK adV : Nat → Nat) (ad : Nat → Nat) (kc : Nat → Nat) (tolds : Int32) (hasImage : Int32) (n_heirs : Int32) (n_left : Int32) (n_bitten : Int32) (n_kinds : (Nat → Int32)) (n_figures : (Nat → Int32)) (k_heirs : Int32) (k_left : Int32) (k_bitten : Int32) (k_kinds : (Nat → Int32)) (k_figures : (Nat → Int32)) (t_heirs : Int32) (t_left : Int32) (t_bitten : Int32) (t_kinds : (Nat → Int32)) (t_figures : (Nat → Int32)) (r_gone : Int32) (r_heaps : Int32) (r_fewestCells : Int32) (r_deed : Int32) (c_ways : (Nat → Int32)) (c_fewest : (Nat → Int32)) (c_nextWays : (Nat → Int32)) (c_nextFewest : (Nat → Int32)) (x_length : Int32) (x_letters : (Nat → Int32)) (told : (Nat → Int32)) (refusals : (Nat → Int32)) (ends : (Nat → Int32)) (a1 : Int32) (o : Int32 × (Nat → Int32)) (hf : f_X5_bridge n_left refusals a1 = some o) : Ct l D cI adK adV yX5_bridge (wy yX5_bridge cX5_bridge 3 (some .int)) { frames := 4, cells := 0, slots := 0, locals := 92 } 0 0 [.ref (ad 0), .int a1] (wX ad kc cI tolds hasImage n_heirs n_left n_bitten n_kinds n_figures k_heirs k_left k_bitten k_kinds k_figures t_heirs t_left t_bitten t_kinds t_figures r_gone r_heaps r_fewestCells r_deed c_ways c_fewest c_nextWays c_nextFewest x_length x_letters told refusals ends) (fun _ => (wX ad kc cI tolds hasImage n_heirs n_left n_bitten n_kinds n_figures k_heirs k_left k_bitten k_kinds k_figures t_heirs t_left t_bitten t_kinds t_figures r_gone r_heaps r_fewestCells r_deed c_ways c_fewest c_nextWays c_nextFewest x_length x_letters told o.2 ends)) (some (.int o.1)) := by
  refine Ct.of (cc := cX5_bridge) (nL := 3) (ret := (some .int)) (own := RX5) (by decide) (Nat.le_of_ble_eq_true rfl) rfl ?_
  intro p e s m args below meth c A C hr hlk hnm
  refine s_lv (lv1 := [(0, .ref (ad 0)), (1, .int a1)]) [0, 1] rfl ?_
  unfold f_X5_bridge at hf
  refine s_iload_n C 1 1 rfl dX5_bridge_0 rfl ?_
  refine s_if_lt C 9 4 rfl dX5_bridge_1 rfl (fun hc17 => ?_) (fun hc17 => ?_)
  · replace hf := ite_t hc17 hf
    refine s_aload_n C 10 0 rfl dX5_bridge_9 rfl ?_
    refine s_bipush C 12 rfl dX5_bridge_10 bp_m2 ?_
    obtain ⟨r1, q2, hf⟩ := bn_s hf
    refine s_callW (T := TX5) (N := 11) (ci := 4) (q0 := 0) (rest := []) C 15 (c_X5_refused l D cI adK adV ad kc tolds hasImage n_heirs n_left n_bitten n_kinds n_figures k_heirs k_left k_bitten k_kinds k_figures t_heirs t_left t_bitten t_kinds t_figures r_gone r_heaps r_fewestCells r_deed c_ways c_fewest c_nextWays c_nextFewest x_length x_letters told refusals ends (-2 : Int32) r1 q2) (gV uu169 uu171 uu1541 uu1 uu172) hd_X5_refused rfl ⟨rfl, rfl⟩ ⟨Nat.le_of_ble_eq_true rfl, Nat.le_of_ble_eq_true rfl⟩ ⟨Nat.le_of_ble_eq_true rfl, Nat.le_of_ble_eq_true rfl⟩ rfl rfl rfl (Nat.le_of_ble_eq_true rfl) rfl dX5_bridge_12 (fun _ => ?_)
    obtain rfl := Option.some.inj hf
    exact s_iret C kc hr hlk rfl rfl dX5_bridge_15
  · replace hf := ite_f hc17 hf
    refine s_iload_n C 5 1 rfl dX5_bridge_4 rfl ?_
    refine s_iconst C 6 rfl dX5_bridge_5 ic_2 ?_
    refine s_icmp_le C 16 9 rfl dX5_bridge_6 rfl (fun hc16 => ?_) (fun hc16 => ?_)
    · replace hf := ite_t hc16 hf
      refine s_iload_n C 17 1 rfl dX5_bridge_16 rfl ?_
      refine s_iconst C 18 rfl dX5_bridge_17 ic_2 ?_
      refine s_icmp_ne C 32 21 rfl dX5_bridge_18 rfl (fun hc13 => ?_) (fun hc13 => ?_)
      · replace hf := ite_f hc13 hf
        refine s_aload_n C 33 0 rfl dX5_bridge_32 rfl ?_
        refine s_get (C1 := RX5) (T := TX5) (N := 11) (ci := 4) C 36 0 0 uX5 rfl rfl (Nat.le_of_ble_eq_true rfl) uu130 rfl rfl rfl dX5_bridge_33 ?_
        refine s_get (C1 := RX0) (T := TX0) (N := 5) (ci := 0) C 39 1 3 uX0 rfl rfl (Nat.le_of_ble_eq_true rfl) uu53 rfl rfl rfl dX5_bridge_36 ?_
        obtain ⟨r3, q4, hf⟩ := bn_s hf
        refine s_callS0 (host := "") (rest := []) C 42 (c_X5_bridgesOf l D cI adK adV n_left r3 q4) (gS uu783 uu785 uu1 uu786) hd_X5_bridgesOf rfl ⟨rfl, rfl⟩ ⟨Nat.le_of_ble_eq_true rfl, Nat.le_of_ble_eq_true rfl⟩ ⟨Nat.le_of_ble_eq_true rfl, Nat.le_of_ble_eq_true rfl⟩ rfl (Nat.le_of_ble_eq_true rfl) rfl dX5_bridge_39 ?_
        refine s_istore_n (lv1 := [(2, .int r3), (0, .ref (ad 0)), (1, .int a1)]) C 43 2 rfl dX5_bridge_42 rfl (Nat.le_of_ble_eq_true rfl) rfl ?_
        refine s_iload_n C 44 2 rfl dX5_bridge_43 rfl ?_
        refine s_if_ne C 52 47 rfl dX5_bridge_44 rfl (fun hc10 => ?_) (fun hc10 => ?_)
        · replace hf := ite_f hc10 hf
          refine s_iload_n C 53 0 rfl dX5_bridge_52 rfl ?_
          refine s_if_ne C 61 56 rfl dX5_bridge_53 rfl (fun hc7 => ?_) (fun hc7 => ?_)
          · replace hf := ite_f hc7 hf
            refine s_iload_n C 62 0 rfl dX5_bridge_61 rfl ?_
            obtain ⟨r5, q6, hf⟩ := bn_s hf
            refine s_callS0 (host := "") (rest := []) C 65 (c_X2_leastCell l D cI adK adV r3 r5 q6) (gS uu624 uu626 uu14 uu627) hd_X2_leastCell rfl ⟨rfl, rfl⟩ ⟨Nat.le_of_ble_eq_true rfl, Nat.le_of_ble_eq_true rfl⟩ ⟨Nat.le_of_ble_eq_true rfl, Nat.le_of_ble_eq_true rfl⟩ rfl (Nat.le_of_ble_eq_true rfl) rfl dX5_bridge_62 ?_
            obtain rfl := Option.some.inj hf
            exact s_iret C kc hr hlk rfl rfl dX5_bridge_65
          · replace hf := ite_t hc7 hf
            refine s_bipush C 58 rfl dX5_bridge_56 bp_m9 ?_
            refine s_goto C 65 dX5_bridge_58 rfl ?_
            obtain rfl := Option.some.inj hf
            exact s_iret C kc hr hlk rfl rfl dX5_bridge_65
        · replace hf := ite_t hc10 hf
          refine s_iload_n C 48 0 rfl dX5_bridge_47 rfl ?_
          obtain ⟨r8, q9, hf⟩ := bn_s hf
          refine s_callS0 (host := "") (rest := []) C 51 (c_J6_bitCount_0f7a4 l D cI adK adV r3 r8 q9) (gS uu487 uu489 uu15 uu490) hd_J6_bitCount_0f7a4 rfl ⟨rfl, rfl⟩ ⟨Nat.le_of_ble_eq_true rfl, Nat.le_of_ble_eq_true rfl⟩ ⟨Nat.le_of_ble_eq_true rfl, Nat.le_of_ble_eq_true rfl⟩ rfl (Nat.le_of_ble_eq_true rfl) rfl dX5_bridge_48 ?_
          obtain rfl := Option.some.inj hf
          exact s_iret C kc hr hlk rfl rfl dX5_bridge_51
      · replace hf := ite_t hc13 hf
        refine s_aload_n C 22 0 rfl dX5_bridge_21 rfl ?_
        refine s_get (C1 := RX5) (T := TX5) (N := 11) (ci := 4) C 25 0 0 uX5 rfl rfl (Nat.le_of_ble_eq_true rfl) uu130 rfl rfl rfl dX5_bridge_22 ?_
        refine s_get (C1 := RX0) (T := TX0) (N := 5) (ci := 0) C 28 1 3 uX0 rfl rfl (Nat.le_of_ble_eq_true rfl) uu53 rfl rfl rfl dX5_bridge_25 ?_
        obtain ⟨r11, q12, hf⟩ := bn_s hf
        refine s_callS0 (host := "") (rest := []) C 31 (c_X2_middleOf l D cI adK adV n_left r11 q12) (gS uu768 uu770 uu14 uu771) hd_X2_middleOf rfl ⟨rfl, rfl⟩ ⟨Nat.le_of_ble_eq_true rfl, Nat.le_of_ble_eq_true rfl⟩ ⟨Nat.le_of_ble_eq_true rfl, Nat.le_of_ble_eq_true rfl⟩ rfl (Nat.le_of_ble_eq_true rfl) rfl dX5_bridge_28 ?_
        obtain rfl := Option.some.inj hf
        exact s_iret C kc hr hlk rfl rfl dX5_bridge_31
    · replace hf := ite_f hc16 hf
      refine s_aload_n C 10 0 rfl dX5_bridge_9 rfl ?_
      refine s_bipush C 12 rfl dX5_bridge_10 bp_m2 ?_
      obtain ⟨r14, q15, hf⟩ := bn_s hf
      refine s_callW (T := TX5) (N := 11) (ci := 4) (q0 := 0) (rest := []) C 15 (c_X5_refused l D cI adK adV ad kc tolds hasImage n_heirs n_left n_bitten n_kinds n_figures k_heirs k_left k_bitten k_kinds k_figures t_heirs t_left t_bitten t_kinds t_figures r_gone r_heaps r_fewestCells r_deed c_ways c_fewest c_nextWays c_nextFewest x_length x_letters told refusals ends (-2 : Int32) r14 q15) (gV uu169 uu171 uu1541 uu1 uu172) hd_X5_refused rfl ⟨rfl, rfl⟩ ⟨Nat.le_of_ble_eq_true rfl, Nat.le_of_ble_eq_true rfl⟩ ⟨Nat.le_of_ble_eq_true rfl, Nat.le_of_ble_eq_true rfl⟩ rfl rfl rfl (Nat.le_of_ble_eq_true rfl) rfl dX5_bridge_12 (fun _ => ?_)
      obtain rfl := Option.some.inj hf
      exact s_iret C kc hr hlk rfl rfl dX5_bridge_15


theorem hd_X5_row : yX5_row.cls = RX5 ∧ yX5_row.cls ≠ "java/lang/invoke/MethodHandle" ∧ yX5_row.cls ≠ "java/lang/invoke/VarHandle" ∧ (parseMethodDescriptor yX5_row.desc).map (fun d => d.parameters.length) = some 1 := by decide +kernel
set_option maxHeartbeats 4000000 in
set_option maxRecDepth 100000 in
theorem c_X5_row (l : Launch) (D : va_G) (cI : ClassId) (adK adV : Nat → Nat) (ad : Nat → Nat) (kc : Nat → Nat) (tolds : Int32) (hasImage : Int32) (n_heirs : Int32) (n_left : Int32) (n_bitten : Int32) (n_kinds : (Nat → Int32)) (n_figures : (Nat → Int32)) (k_heirs : Int32) (k_left : Int32) (k_bitten : Int32) (k_kinds : (Nat → Int32)) (k_figures : (Nat → Int32)) (t_heirs : Int32) (t_left : Int32) (t_bitten : Int32) (t_kinds : (Nat → Int32)) (t_figures : (Nat → Int32)) (r_gone : Int32) (r_heaps : Int32) (r_fewestCells : Int32) (r_deed : Int32) (c_ways : (Nat → Int32)) (c_fewest : (Nat → Int32)) (c_nextWays : (Nat → Int32)) (c_nextFewest : (Nat → Int32)) (x_length : Int32) (x_letters : (Nat → Int32)) (told : (Nat → Int32)) (refusals : (Nat → Int32)) (ends : (Nat → Int32)) (a1 : Int32) (o : Int32 × Int32 × (Nat → Int32) × (Nat → Int32)) (hf : f_X5_row tolds told refusals a1 = some o) : Ct l D cI adK adV yX5_row (wy yX5_row cX5_row 2 (some .int)) { frames := 1, cells := 0, slots := 0, locals := 21 } 0 0 [.ref (ad 0), .int a1] (wX ad kc cI tolds hasImage n_heirs n_left n_bitten n_kinds n_figures k_heirs k_left k_bitten k_kinds k_figures t_heirs t_left t_bitten t_kinds t_figures r_gone r_heaps r_fewestCells r_deed c_ways c_fewest c_nextWays c_nextFewest x_length x_letters told refusals ends) (fun _ => (wX ad kc cI o.2.1 hasImage n_heirs n_left n_bitten n_kinds n_figures k_heirs k_left k_bitten k_kinds k_figures t_heirs t_left t_bitten t_kinds t_figures r_gone r_heaps r_fewestCells r_deed c_ways c_fewest c_nextWays c_nextFewest x_length x_letters o.2.2.1 o.2.2.2 ends)) (some (.int o.1)) := by
  refine Ct.of (cc := cX5_row) (nL := 2) (ret := (some .int)) (own := RX5) (by decide) (Nat.le_of_ble_eq_true rfl) rfl ?_
  intro p e s m args below meth c A C hr hlk hnm
  refine s_lv (lv1 := [(0, .ref (ad 0)), (1, .int a1)]) [0, 1] rfl ?_
  unfold f_X5_row at hf
  refine s_iload_n C 1 1 rfl dX5_row_0 rfl ?_
  refine s_if_ge C 11 4 rfl dX5_row_1 rfl (fun hc10 => ?_) (fun hc10 => ?_)
  · replace hf := ite_t hc10 hf
    refine s_iload_n C 12 1 rfl dX5_row_11 rfl ?_
    refine s_bipush C 14 rfl dX5_row_12 bp_99 ?_
    refine s_icmp_gt C 26 17 rfl dX5_row_14 rfl (fun hc7 => ?_) (fun hc7 => ?_)
    · replace hf := ite_t hc7 hf
      refine s_aload_n C 27 0 rfl dX5_row_26 rfl ?_
      refine s_bipush C 29 rfl dX5_row_27 bp_m6 ?_
      obtain ⟨r1, q2, hf⟩ := bn_s hf
      refine s_callW (T := TX5) (N := 11) (ci := 4) (q0 := 0) (rest := []) C 32 (c_X5_refused l D cI adK adV ad kc tolds hasImage n_heirs n_left n_bitten n_kinds n_figures k_heirs k_left k_bitten k_kinds k_figures t_heirs t_left t_bitten t_kinds t_figures r_gone r_heaps r_fewestCells r_deed c_ways c_fewest c_nextWays c_nextFewest x_length x_letters told refusals ends (-6 : Int32) r1 q2) (gV uu169 uu171 uu1541 uu1 uu172) hd_X5_refused rfl ⟨rfl, rfl⟩ ⟨Nat.le_of_ble_eq_true rfl, Nat.le_of_ble_eq_true rfl⟩ ⟨Nat.le_of_ble_eq_true rfl, Nat.le_of_ble_eq_true rfl⟩ rfl rfl rfl (Nat.le_of_ble_eq_true rfl) rfl dX5_row_29 (fun _ => ?_)
      obtain rfl := Option.some.inj hf
      exact s_iret C kc hr hlk rfl rfl dX5_row_32
    · replace hf := ite_f hc7 hf
      refine s_aload_n C 18 0 rfl dX5_row_17 rfl ?_
      refine s_get (C1 := RX5) (T := TX5) (N := 11) (ci := 4) C 21 0 9 uX5 rfl rfl (Nat.le_of_ble_eq_true rfl) uu148 rfl rfl rfl dX5_row_18 ?_
      refine s_bipush C 23 rfl dX5_row_21 bp_16 ?_
      refine s_icmp_lt C 33 26 rfl dX5_row_23 rfl (fun hc6 => ?_) (fun hc6 => ?_)
      · replace hf := ite_t hc6 hf
        refine s_aload_n C 34 0 rfl dX5_row_33 rfl ?_
        refine s_get (C1 := RX5) (T := TX5) (N := 11) (ci := 4) C 37 0 6 uX5 rfl rfl (Nat.le_of_ble_eq_true rfl) uu142 rfl rfl rfl dX5_row_34 ?_
        refine s_aload_n C 38 0 rfl dX5_row_37 rfl ?_
        refine s_get (C1 := RX5) (T := TX5) (N := 11) (ci := 4) C 41 0 9 uX5 rfl rfl (Nat.le_of_ble_eq_true rfl) uu148 rfl rfl rfl dX5_row_38 ?_
        refine s_iload_n C 42 1 rfl dX5_row_41 rfl ?_
        obtain ⟨h3, hf⟩ := ck_in hf
        refine s_iast (ws1 := (wX ad kc cI tolds hasImage n_heirs n_left n_bitten n_kinds n_figures k_heirs k_left k_bitten k_kinds k_figures t_heirs t_left t_bitten t_kinds t_figures r_gone r_heaps r_fewestCells r_deed c_ways c_fewest c_nextWays c_nextFewest x_length x_letters (upd told tolds.toNatClampNeg a1) refusals ends)) C 43 18 rfl h3 rfl rfl dX5_row_42 ?_
        refine s_aload_n C 44 0 rfl dX5_row_43 rfl ?_
        refine s_dup C 45 rfl dX5_row_44 rfl ?_
        refine s_get (C1 := RX5) (T := TX5) (N := 11) (ci := 4) C 48 0 9 uX5 rfl rfl (Nat.le_of_ble_eq_true rfl) uu148 rfl rfl rfl dX5_row_45 ?_
        refine s_iconst C 49 rfl dX5_row_48 ic_1 ?_
        refine s_iadd C 50 rfl dX5_row_49 ?_
        refine s_put (C1 := RX5) (T := TX5) (N := 11) (ci := 4) (ty := tyX5 9) (ws1 := (wX ad kc cI (tolds + (1 : Int32)) hasImage n_heirs n_left n_bitten n_kinds n_figures k_heirs k_left k_bitten k_kinds k_figures t_heirs t_left t_bitten t_kinds t_figures r_gone r_heaps r_fewestCells r_deed c_ways c_fewest c_nextWays c_nextFewest x_length x_letters (upd told tolds.toNatClampNeg a1) refusals ends)) C 53 0 9 uX5 tyX5 tyX5_ok nmX5 rfl rfl (Nat.le_of_ble_eq_true rfl) uu148 rfl rfl (tyX5_ok 9 (Nat.le_of_ble_eq_true rfl)) ⟨rfl, rfl⟩ (Nat.le_of_ble_eq_true rfl) rfl rfl dX5_row_50 ?_
        refine s_aload_n C 54 0 rfl dX5_row_53 rfl ?_
        refine s_get (C1 := RX5) (T := TX5) (N := 11) (ci := 4) C 57 0 9 uX5 rfl rfl (Nat.le_of_ble_eq_true rfl) uu148 rfl rfl rfl dX5_row_54 ?_
        obtain rfl := Option.some.inj hf
        exact s_iret C kc hr hlk rfl rfl dX5_row_57
      · replace hf := ite_f hc6 hf
        refine s_aload_n C 27 0 rfl dX5_row_26 rfl ?_
        refine s_bipush C 29 rfl dX5_row_27 bp_m6 ?_
        obtain ⟨r4, q5, hf⟩ := bn_s hf
        refine s_callW (T := TX5) (N := 11) (ci := 4) (q0 := 0) (rest := []) C 32 (c_X5_refused l D cI adK adV ad kc tolds hasImage n_heirs n_left n_bitten n_kinds n_figures k_heirs k_left k_bitten k_kinds k_figures t_heirs t_left t_bitten t_kinds t_figures r_gone r_heaps r_fewestCells r_deed c_ways c_fewest c_nextWays c_nextFewest x_length x_letters told refusals ends (-6 : Int32) r4 q5) (gV uu169 uu171 uu1541 uu1 uu172) hd_X5_refused rfl ⟨rfl, rfl⟩ ⟨Nat.le_of_ble_eq_true rfl, Nat.le_of_ble_eq_true rfl⟩ ⟨Nat.le_of_ble_eq_true rfl, Nat.le_of_ble_eq_true rfl⟩ rfl rfl rfl (Nat.le_of_ble_eq_true rfl) rfl dX5_row_29 (fun _ => ?_)
        obtain rfl := Option.some.inj hf
        exact s_iret C kc hr hlk rfl rfl dX5_row_32
  · replace hf := ite_f hc10 hf
    refine s_aload_n C 5 0 rfl dX5_row_4 rfl ?_
    refine s_bipush C 7 rfl dX5_row_5 bp_m4 ?_
    obtain ⟨r8, q9, hf⟩ := bn_s hf
    refine s_callW (T := TX5) (N := 11) (ci := 4) (q0 := 0) (rest := []) C 10 (c_X5_refused l D cI adK adV ad kc tolds hasImage n_heirs n_left n_bitten n_kinds n_figures k_heirs k_left k_bitten k_kinds k_figures t_heirs t_left t_bitten t_kinds t_figures r_gone r_heaps r_fewestCells r_deed c_ways c_fewest c_nextWays c_nextFewest x_length x_letters told refusals ends (-4 : Int32) r8 q9) (gV uu169 uu171 uu1541 uu1 uu172) hd_X5_refused rfl ⟨rfl, rfl⟩ ⟨Nat.le_of_ble_eq_true rfl, Nat.le_of_ble_eq_true rfl⟩ ⟨Nat.le_of_ble_eq_true rfl, Nat.le_of_ble_eq_true rfl⟩ rfl rfl rfl (Nat.le_of_ble_eq_true rfl) rfl dX5_row_7 (fun _ => ?_)
    obtain rfl := Option.some.inj hf
    exact s_iret C kc hr hlk rfl rfl dX5_row_10


theorem hd_X5_on : yX5_on.cls = RX5 ∧ yX5_on.cls ≠ "java/lang/invoke/MethodHandle" ∧ yX5_on.cls ≠ "java/lang/invoke/VarHandle" ∧ (parseMethodDescriptor yX5_on.desc).map (fun d => d.parameters.length) = some 0 := by decide +kernel
set_option maxHeartbeats 4000000 in
set_option maxRecDepth 100000 in
theorem c_X5_on (l : Launch) (D : va_G) (cI : ClassId) (adK adV : Nat → Nat) (ad : Nat → Nat) (kc : Nat → Nat) (tolds : Int32) (hasImage : Int32) (n_heirs : Int32) (n_left : Int32) (n_bitten : Int32) (n_kinds : (Nat → Int32)) (n_figures : (Nat → Int32)) (k_heirs : Int32) (k_left : Int32) (k_bitten : Int32) (k_kinds : (Nat → Int32)) (k_figures : (Nat → Int32)) (t_heirs : Int32) (t_left : Int32) (t_bitten : Int32) (t_kinds : (Nat → Int32)) (t_figures : (Nat → Int32)) (r_gone : Int32) (r_heaps : Int32) (r_fewestCells : Int32) (r_deed : Int32) (c_ways : (Nat → Int32)) (c_fewest : (Nat → Int32)) (c_nextWays : (Nat → Int32)) (c_nextFewest : (Nat → Int32)) (x_length : Int32) (x_letters : (Nat → Int32)) (told : (Nat → Int32)) (refusals : (Nat → Int32)) (ends : (Nat → Int32))  (o : Int32 × Int32 × Int32 × Int32 × (Nat → Int32) × (Nat → Int32) × (Nat → Int32)) (hf : f_X5_on hasImage n_heirs n_left n_bitten n_kinds n_figures k_heirs k_left k_bitten k_kinds k_figures refusals = some o) : Ct l D cI adK adV yX5_on (wy yX5_on cX5_on 1 (some .int)) { frames := 2, cells := 0, slots := 0, locals := 81 } 0 0 [.ref (ad 0)] (wX ad kc cI tolds hasImage n_heirs n_left n_bitten n_kinds n_figures k_heirs k_left k_bitten k_kinds k_figures t_heirs t_left t_bitten t_kinds t_figures r_gone r_heaps r_fewestCells r_deed c_ways c_fewest c_nextWays c_nextFewest x_length x_letters told refusals ends) (fun _ => (wX ad kc cI tolds hasImage o.2.1 o.2.2.1 o.2.2.2.1 o.2.2.2.2.1 o.2.2.2.2.2.1 k_heirs k_left k_bitten k_kinds k_figures t_heirs t_left t_bitten t_kinds t_figures r_gone r_heaps r_fewestCells r_deed c_ways c_fewest c_nextWays c_nextFewest x_length x_letters told o.2.2.2.2.2.2 ends)) (some (.int o.1)) := by
  refine Ct.of (cc := cX5_on) (nL := 1) (ret := (some .int)) (own := RX5) (by decide) (Nat.le_of_ble_eq_true rfl) rfl ?_
  intro p e s m args below meth c A C hr hlk hnm
  refine s_lv (lv1 := [(0, .ref (ad 0))]) [0] rfl ?_
  unfold f_X5_on at hf
  refine s_aload_n C 1 0 rfl dX5_on_0 rfl ?_
  refine s_get (C1 := RX5) (T := TX5) (N := 11) (ci := 4) C 4 0 10 uX5 rfl rfl (Nat.le_of_ble_eq_true rfl) uu150 rfl rfl rfl dX5_on_1 ?_
  refine s_if_ne C 14 7 rfl dX5_on_4 rfl (fun hc5 => ?_) (fun hc5 => ?_)
  · replace hf := ite_f hc5 hf
    refine s_aload_n C 15 0 rfl dX5_on_14 rfl ?_
    refine s_get (C1 := RX5) (T := TX5) (N := 11) (ci := 4) C 18 0 0 uX5 rfl rfl (Nat.le_of_ble_eq_true rfl) uu130 rfl rfl rfl dX5_on_15 ?_
    refine s_aload_n C 19 0 rfl dX5_on_18 rfl ?_
    refine s_get (C1 := RX5) (T := TX5) (N := 11) (ci := 4) C 22 0 1 uX5 rfl rfl (Nat.le_of_ble_eq_true rfl) uu132 rfl rfl rfl dX5_on_19 ?_
    obtain ⟨r1, q2, hf⟩ := bn_s hf
    refine s_callV (T := TX0) (N := 5) (ci := 0) (q0 := 1) (rest := []) (wr := [((ad 0), .inr (4, [.ref (ad 1), .ref (ad 4), .ref (ad 7), .ref (ad 10), .ref (ad 11), .ref (ad 12), .ref (ad 14), .ref (ad 15), .ref (ad 16), .int tolds, .int hasImage])), ((ad 7), .inr (0, [.ref (ad 8), .ref (ad 9), .int t_heirs, .int t_left, .int t_bitten])), ((ad 8), .inl (cI, 5, .inl t_kinds)), ((ad 9), .inl (cI, 5, .inl t_figures)), ((ad 10), .inr (2, [.int r_gone, .int r_heaps, .int r_fewestCells, .int r_deed])), ((ad 11), .inr (1, [.ref (kc 0), .ref (kc 1), .ref (kc 2), .ref (kc 3)])), ((kc 0), .inl (cI, 64, .inl c_ways)), ((kc 1), .inl (cI, 64, .inl c_fewest)), ((kc 2), .inl (cI, 64, .inl c_nextWays)), ((kc 3), .inl (cI, 64, .inl c_nextFewest)), ((ad 12), .inr (3, [.ref (ad 13), .int x_length])), ((ad 13), .inl (cI, 96, .inl x_letters)), ((ad 14), .inl (cI, 16, .inl told)), ((ad 15), .inl (cI, 7, .inl refusals)), ((ad 16), .inl (cI, 4, .inl ends))]) (ws2 := fun _ => (wX ad kc cI tolds hasImage r1.1 r1.2.1 r1.2.2.1 r1.2.2.2.1 r1.2.2.2.2 k_heirs k_left k_bitten k_kinds k_figures t_heirs t_left t_bitten t_kinds t_figures r_gone r_heaps r_fewestCells r_deed c_ways c_fewest c_nextWays c_nextFewest x_length x_letters told refusals ends)) C 25 (c_X0_becomes l D cI adK adV (ad 1) (ad 2) (ad 3) (ad 4) (ad 5) (ad 6) n_heirs n_left n_bitten n_kinds n_figures k_heirs k_left k_bitten k_kinds k_figures r1 q2) (gV uu383 uu385 uu386 uu2 uu387) hd_X0_becomes rfl ⟨rfl, rfl⟩ ⟨Nat.le_of_ble_eq_true rfl, Nat.le_of_ble_eq_true rfl⟩ ⟨Nat.le_of_ble_eq_true rfl, Nat.le_of_ble_eq_true rfl⟩ rfl rfl rfl (Nat.le_of_ble_eq_true rfl) [1, 2, 3, 4, 5, 6] [0, 7, 8, 9, 10, 11, 12, 13, 14, 15, 16, 17, 18, 19, 20] [0, 15, 16, 17, 18, 19, 20, 1, 2, 3, 4, 5, 6, 7, 8, 9, 10, 11, 12, 13, 14] rfl rfl rfl rfl (by decide) rfl (fun _ => rfl) (fun _ => rfl) rfl dX5_on_22 (fun _ => ?_)
    refine s_aload_n C 26 0 rfl dX5_on_25 rfl ?_
    refine s_get (C1 := RX5) (T := TX5) (N := 11) (ci := 4) C 29 0 0 uX5 rfl rfl (Nat.le_of_ble_eq_true rfl) uu130 rfl rfl rfl dX5_on_26 ?_
    refine s_get (C1 := RX0) (T := TX0) (N := 5) (ci := 0) C 32 1 4 uX0 rfl rfl (Nat.le_of_ble_eq_true rfl) uu57 rfl rfl rfl dX5_on_29 ?_
    obtain rfl := Option.some.inj hf
    exact s_iret C kc hr hlk rfl rfl dX5_on_32
  · replace hf := ite_t hc5 hf
    refine s_aload_n C 8 0 rfl dX5_on_7 rfl ?_
    refine s_bipush C 10 rfl dX5_on_8 bp_m3 ?_
    obtain ⟨r3, q4, hf⟩ := bn_s hf
    refine s_callW (T := TX5) (N := 11) (ci := 4) (q0 := 0) (rest := []) C 13 (c_X5_refused l D cI adK adV ad kc tolds hasImage n_heirs n_left n_bitten n_kinds n_figures k_heirs k_left k_bitten k_kinds k_figures t_heirs t_left t_bitten t_kinds t_figures r_gone r_heaps r_fewestCells r_deed c_ways c_fewest c_nextWays c_nextFewest x_length x_letters told refusals ends (-3 : Int32) r3 q4) (gV uu169 uu171 uu1541 uu1 uu172) hd_X5_refused rfl ⟨rfl, rfl⟩ ⟨Nat.le_of_ble_eq_true rfl, Nat.le_of_ble_eq_true rfl⟩ ⟨Nat.le_of_ble_eq_true rfl, Nat.le_of_ble_eq_true rfl⟩ rfl rfl rfl (Nat.le_of_ble_eq_true rfl) rfl dX5_on_10 (fun _ => ?_)
    obtain rfl := Option.some.inj hf
    exact s_iret C kc hr hlk rfl rfl dX5_on_13


theorem hd_X5_bites : yX5_bites.cls = RX5 ∧ yX5_bites.cls ≠ "java/lang/invoke/MethodHandle" ∧ yX5_bites.cls ≠ "java/lang/invoke/VarHandle" ∧ (parseMethodDescriptor yX5_bites.desc).map (fun d => d.parameters.length) = some 2 := by decide +kernel
set_option maxHeartbeats 4000000 in
set_option maxRecDepth 100000 in
theorem c_X5_bites (l : Launch) (D : va_G) (cI : ClassId) (adK adV : Nat → Nat) (ad : Nat → Nat) (kc : Nat → Nat) (tolds : Int32) (hasImage : Int32) (n_heirs : Int32) (n_left : Int32) (n_bitten : Int32) (n_kinds : (Nat → Int32)) (n_figures : (Nat → Int32)) (k_heirs : Int32) (k_left : Int32) (k_bitten : Int32) (k_kinds : (Nat → Int32)) (k_figures : (Nat → Int32)) (t_heirs : Int32) (t_left : Int32) (t_bitten : Int32) (t_kinds : (Nat → Int32)) (t_figures : (Nat → Int32)) (r_gone : Int32) (r_heaps : Int32) (r_fewestCells : Int32) (r_deed : Int32) (c_ways : (Nat → Int32)) (c_fewest : (Nat → Int32)) (c_nextWays : (Nat → Int32)) (c_nextFewest : (Nat → Int32)) (x_length : Int32) (x_letters : (Nat → Int32)) (told : (Nat → Int32)) (refusals : (Nat → Int32)) (ends : (Nat → Int32)) (a1 : Int32) (a2 : Int32) (o : Int32 × Int32 × Int32 × (Nat → Int32)) (hf : f_X5_bites n_left n_bitten refusals a1 a2 = some o) : Ct l D cI adK adV yX5_bites (wy yX5_bites cX5_bites 3 (some .int)) { frames := 3, cells := 0, slots := 0, locals := 67 } 0 0 [.ref (ad 0), .int a1, .int a2] (wX ad kc cI tolds hasImage n_heirs n_left n_bitten n_kinds n_figures k_heirs k_left k_bitten k_kinds k_figures t_heirs t_left t_bitten t_kinds t_figures r_gone r_heaps r_fewestCells r_deed c_ways c_fewest c_nextWays c_nextFewest x_length x_letters told refusals ends) (fun _ => (wX ad kc cI tolds hasImage n_heirs o.2.1 o.2.2.1 n_kinds n_figures k_heirs k_left k_bitten k_kinds k_figures t_heirs t_left t_bitten t_kinds t_figures r_gone r_heaps r_fewestCells r_deed c_ways c_fewest c_nextWays c_nextFewest x_length x_letters told o.2.2.2 ends)) (some (.int o.1)) := by
  refine Ct.of (cc := cX5_bites) (nL := 3) (ret := (some .int)) (own := RX5) (by decide) (Nat.le_of_ble_eq_true rfl) rfl ?_
  intro p e s m args below meth c A C hr hlk hnm
  refine s_lv (lv1 := [(0, .ref (ad 0)), (1, .int a1), (2, .int a2)]) [0, 1, 2] rfl ?_
  unfold f_X5_bites at hf
  refine s_iload_n C 1 1 rfl dX5_bites_0 rfl ?_
  refine s_if_lt C 9 4 rfl dX5_bites_1 rfl (fun hc18 => ?_) (fun hc18 => ?_)
  · replace hf := ite_t hc18 hf
    refine s_aload_n C 10 0 rfl dX5_bites_9 rfl ?_
    refine s_bipush C 12 rfl dX5_bites_10 bp_m2 ?_
    obtain ⟨r1, q2, hf⟩ := bn_s hf
    refine s_callW (T := TX5) (N := 11) (ci := 4) (q0 := 0) (rest := []) C 15 (c_X5_refused l D cI adK adV ad kc tolds hasImage n_heirs n_left n_bitten n_kinds n_figures k_heirs k_left k_bitten k_kinds k_figures t_heirs t_left t_bitten t_kinds t_figures r_gone r_heaps r_fewestCells r_deed c_ways c_fewest c_nextWays c_nextFewest x_length x_letters told refusals ends (-2 : Int32) r1 q2) (gV uu169 uu171 uu1541 uu1 uu172) hd_X5_refused rfl ⟨rfl, rfl⟩ ⟨Nat.le_of_ble_eq_true rfl, Nat.le_of_ble_eq_true rfl⟩ ⟨Nat.le_of_ble_eq_true rfl, Nat.le_of_ble_eq_true rfl⟩ rfl rfl rfl (Nat.le_of_ble_eq_true rfl) rfl dX5_bites_12 (fun _ => ?_)
    obtain rfl := Option.some.inj hf
    exact s_iret C kc hr hlk rfl rfl dX5_bites_15
  · replace hf := ite_f hc18 hf
    refine s_iload_n C 5 1 rfl dX5_bites_4 rfl ?_
    refine s_iconst C 6 rfl dX5_bites_5 ic_4 ?_
    refine s_icmp_lt C 16 9 rfl dX5_bites_6 rfl (fun hc17 => ?_) (fun hc17 => ?_)
    · replace hf := ite_t hc17 hf
      refine s_iload_n C 17 2 rfl dX5_bites_16 rfl ?_
      obtain ⟨r3, q4, hf⟩ := bn_s hf
      refine s_callS0 (host := "") (rest := []) C 20 (c_X5_isCell l D cI adK adV a2 r3 q4) (gS uu474 uu432 uu1 uu433) hd_X5_isCell rfl ⟨rfl, rfl⟩ ⟨Nat.le_of_ble_eq_true rfl, Nat.le_of_ble_eq_true rfl⟩ ⟨Nat.le_of_ble_eq_true rfl, Nat.le_of_ble_eq_true rfl⟩ rfl (Nat.le_of_ble_eq_true rfl) rfl dX5_bites_17 ?_
      refine s_if_ne C 29 23 rfl dX5_bites_20 rfl (fun hc14 => ?_) (fun hc14 => ?_)
      · replace hf := ite_f hc14 hf
        refine s_aload_n C 30 0 rfl dX5_bites_29 rfl ?_
        refine s_get (C1 := RX5) (T := TX5) (N := 11) (ci := 4) C 33 0 0 uX5 rfl rfl (Nat.le_of_ble_eq_true rfl) uu130 rfl rfl rfl dX5_bites_30 ?_
        refine s_iload_n C 34 1 rfl dX5_bites_33 rfl ?_
        refine s_iload_n C 35 2 rfl dX5_bites_34 rfl ?_
        obtain ⟨r5, q6, hf⟩ := bn_s hf
        refine s_callV (T := TX0) (N := 5) (ci := 0) (q0 := 1) (rest := []) (wr := [((ad 0), .inr (4, [.ref (ad 1), .ref (ad 4), .ref (ad 7), .ref (ad 10), .ref (ad 11), .ref (ad 12), .ref (ad 14), .ref (ad 15), .ref (ad 16), .int tolds, .int hasImage])), ((ad 4), .inr (0, [.ref (ad 5), .ref (ad 6), .int k_heirs, .int k_left, .int k_bitten])), ((ad 5), .inl (cI, 5, .inl k_kinds)), ((ad 6), .inl (cI, 5, .inl k_figures)), ((ad 7), .inr (0, [.ref (ad 8), .ref (ad 9), .int t_heirs, .int t_left, .int t_bitten])), ((ad 8), .inl (cI, 5, .inl t_kinds)), ((ad 9), .inl (cI, 5, .inl t_figures)), ((ad 10), .inr (2, [.int r_gone, .int r_heaps, .int r_fewestCells, .int r_deed])), ((ad 11), .inr (1, [.ref (kc 0), .ref (kc 1), .ref (kc 2), .ref (kc 3)])), ((kc 0), .inl (cI, 64, .inl c_ways)), ((kc 1), .inl (cI, 64, .inl c_fewest)), ((kc 2), .inl (cI, 64, .inl c_nextWays)), ((kc 3), .inl (cI, 64, .inl c_nextFewest)), ((ad 12), .inr (3, [.ref (ad 13), .int x_length])), ((ad 13), .inl (cI, 96, .inl x_letters)), ((ad 14), .inl (cI, 16, .inl told)), ((ad 15), .inl (cI, 7, .inl refusals)), ((ad 16), .inl (cI, 4, .inl ends))]) (ws2 := fun _ => (wX ad kc cI tolds hasImage n_heirs r5.2.1 r5.2.2 n_kinds n_figures k_heirs k_left k_bitten k_kinds k_figures t_heirs t_left t_bitten t_kinds t_figures r_gone r_heaps r_fewestCells r_deed c_ways c_fewest c_nextWays c_nextFewest x_length x_letters told refusals ends)) C 38 (c_X0_takesBite l D cI adK adV (ad 1) (ad 2) (ad 3) n_heirs n_left n_bitten n_kinds n_figures a1 a2 r5 q6) (gV uu558 uu422 uu423 uu2 uu424) hd_X0_takesBite rfl ⟨rfl, rfl⟩ ⟨Nat.le_of_ble_eq_true rfl, Nat.le_of_ble_eq_true rfl⟩ ⟨Nat.le_of_ble_eq_true rfl, Nat.le_of_ble_eq_true rfl⟩ rfl rfl rfl (Nat.le_of_ble_eq_true rfl) [1, 2, 3] [0, 4, 5, 6, 7, 8, 9, 10, 11, 12, 13, 14, 15, 16, 17, 18, 19, 20] [0, 18, 19, 20, 1, 2, 3, 4, 5, 6, 7, 8, 9, 10, 11, 12, 13, 14, 15, 16, 17] rfl rfl rfl rfl (by decide) rfl (fun _ => rfl) (fun _ => rfl) rfl dX5_bites_35 (fun _ => ?_)
        refine s_if_ne C 48 41 rfl dX5_bites_38 rfl (fun hc11 => ?_) (fun hc11 => ?_)
        · replace hf := ite_f hc11 hf
          refine s_aload_n C 49 0 rfl dX5_bites_48 rfl ?_
          refine s_get (C1 := RX5) (T := TX5) (N := 11) (ci := 4) C 52 0 0 uX5 rfl rfl (Nat.le_of_ble_eq_true rfl) uu130 rfl rfl rfl dX5_bites_49 ?_
          refine s_get (C1 := RX0) (T := TX0) (N := 5) (ci := 0) C 55 1 3 uX0 rfl rfl (Nat.le_of_ble_eq_true rfl) uu53 rfl rfl rfl dX5_bites_52 ?_
          obtain ⟨r7, q8, hf⟩ := bn_s hf
          refine s_callS0 (host := "") (rest := []) C 58 (c_J6_bitCount_0f7a4 l D cI adK adV r5.2.1 r7 q8) (gS uu487 uu489 uu15 uu490) hd_J6_bitCount_0f7a4 rfl ⟨rfl, rfl⟩ ⟨Nat.le_of_ble_eq_true rfl, Nat.le_of_ble_eq_true rfl⟩ ⟨Nat.le_of_ble_eq_true rfl, Nat.le_of_ble_eq_true rfl⟩ rfl (Nat.le_of_ble_eq_true rfl) rfl dX5_bites_55 ?_
          obtain rfl := Option.some.inj hf
          exact s_iret C kc hr hlk rfl rfl dX5_bites_58
        · replace hf := ite_t hc11 hf
          refine s_aload_n C 42 0 rfl dX5_bites_41 rfl ?_
          refine s_bipush C 44 rfl dX5_bites_42 bp_m3 ?_
          obtain ⟨r9, q10, hf⟩ := bn_s hf
          refine s_callW (T := TX5) (N := 11) (ci := 4) (q0 := 0) (rest := []) C 47 (c_X5_refused l D cI adK adV ad kc tolds hasImage n_heirs r5.2.1 r5.2.2 n_kinds n_figures k_heirs k_left k_bitten k_kinds k_figures t_heirs t_left t_bitten t_kinds t_figures r_gone r_heaps r_fewestCells r_deed c_ways c_fewest c_nextWays c_nextFewest x_length x_letters told refusals ends (-3 : Int32) r9 q10) (gV uu169 uu171 uu1541 uu1 uu172) hd_X5_refused rfl ⟨rfl, rfl⟩ ⟨Nat.le_of_ble_eq_true rfl, Nat.le_of_ble_eq_true rfl⟩ ⟨Nat.le_of_ble_eq_true rfl, Nat.le_of_ble_eq_true rfl⟩ rfl rfl rfl (Nat.le_of_ble_eq_true rfl) rfl dX5_bites_44 (fun _ => ?_)
          obtain rfl := Option.some.inj hf
          exact s_iret C kc hr hlk rfl rfl dX5_bites_47
      · replace hf := ite_t hc14 hf
        refine s_aload_n C 24 0 rfl dX5_bites_23 rfl ?_
        refine s_iconst C 25 rfl dX5_bites_24 ic_m1 ?_
        obtain ⟨r12, q13, hf⟩ := bn_s hf
        refine s_callW (T := TX5) (N := 11) (ci := 4) (q0 := 0) (rest := []) C 28 (c_X5_refused l D cI adK adV ad kc tolds hasImage n_heirs n_left n_bitten n_kinds n_figures k_heirs k_left k_bitten k_kinds k_figures t_heirs t_left t_bitten t_kinds t_figures r_gone r_heaps r_fewestCells r_deed c_ways c_fewest c_nextWays c_nextFewest x_length x_letters told refusals ends (-1 : Int32) r12 q13) (gV uu169 uu171 uu1541 uu1 uu172) hd_X5_refused rfl ⟨rfl, rfl⟩ ⟨Nat.le_of_ble_eq_true rfl, Nat.le_of_ble_eq_true rfl⟩ ⟨Nat.le_of_ble_eq_true rfl, Nat.le_of_ble_eq_true rfl⟩ rfl rfl rfl (Nat.le_of_ble_eq_true rfl) rfl dX5_bites_25 (fun _ => ?_)
        obtain rfl := Option.some.inj hf
        exact s_iret C kc hr hlk rfl rfl dX5_bites_28
    · replace hf := ite_f hc17 hf
      refine s_aload_n C 10 0 rfl dX5_bites_9 rfl ?_
      refine s_bipush C 12 rfl dX5_bites_10 bp_m2 ?_
      obtain ⟨r15, q16, hf⟩ := bn_s hf
      refine s_callW (T := TX5) (N := 11) (ci := 4) (q0 := 0) (rest := []) C 15 (c_X5_refused l D cI adK adV ad kc tolds hasImage n_heirs n_left n_bitten n_kinds n_figures k_heirs k_left k_bitten k_kinds k_figures t_heirs t_left t_bitten t_kinds t_figures r_gone r_heaps r_fewestCells r_deed c_ways c_fewest c_nextWays c_nextFewest x_length x_letters told refusals ends (-2 : Int32) r15 q16) (gV uu169 uu171 uu1541 uu1 uu172) hd_X5_refused rfl ⟨rfl, rfl⟩ ⟨Nat.le_of_ble_eq_true rfl, Nat.le_of_ble_eq_true rfl⟩ ⟨Nat.le_of_ble_eq_true rfl, Nat.le_of_ble_eq_true rfl⟩ rfl rfl rfl (Nat.le_of_ble_eq_true rfl) rfl dX5_bites_12 (fun _ => ?_)
      obtain rfl := Option.some.inj hf
      exact s_iret C kc hr hlk rfl rfl dX5_bites_15


theorem hd_X5_shares : yX5_shares.cls = RX5 ∧ yX5_shares.cls ≠ "java/lang/invoke/MethodHandle" ∧ yX5_shares.cls ≠ "java/lang/invoke/VarHandle" ∧ (parseMethodDescriptor yX5_shares.desc).map (fun d => d.parameters.length) = some 1 := by decide +kernel
set_option maxHeartbeats 4000000 in
set_option maxRecDepth 100000 in
theorem c_X5_shares (l : Launch) (D : va_G) (cI : ClassId) (adK adV : Nat → Nat) (ad : Nat → Nat) (kc : Nat → Nat) (tolds : Int32) (hasImage : Int32) (n_heirs : Int32) (n_left : Int32) (n_bitten : Int32) (n_kinds : (Nat → Int32)) (n_figures : (Nat → Int32)) (k_heirs : Int32) (k_left : Int32) (k_bitten : Int32) (k_kinds : (Nat → Int32)) (k_figures : (Nat → Int32)) (t_heirs : Int32) (t_left : Int32) (t_bitten : Int32) (t_kinds : (Nat → Int32)) (t_figures : (Nat → Int32)) (r_gone : Int32) (r_heaps : Int32) (r_fewestCells : Int32) (r_deed : Int32) (c_ways : (Nat → Int32)) (c_fewest : (Nat → Int32)) (c_nextWays : (Nat → Int32)) (c_nextFewest : (Nat → Int32)) (x_length : Int32) (x_letters : (Nat → Int32)) (told : (Nat → Int32)) (refusals : (Nat → Int32)) (ends : (Nat → Int32)) (a1 : Int32) (o : Int32 × Int32 × Int32 × Int32 × Int32 × (Nat → Int32)) (hf : f_X5_shares n_heirs n_left n_kinds n_figures r_gone r_heaps r_fewestCells r_deed refusals a1 = some o) : Ct l D cI adK adV yX5_shares (wy yX5_shares cX5_shares 2 (some .int)) { frames := 4, cells := 0, slots := 0, locals := 95 } 0 0 [.ref (ad 0), .int a1] (wX ad kc cI tolds hasImage n_heirs n_left n_bitten n_kinds n_figures k_heirs k_left k_bitten k_kinds k_figures t_heirs t_left t_bitten t_kinds t_figures r_gone r_heaps r_fewestCells r_deed c_ways c_fewest c_nextWays c_nextFewest x_length x_letters told refusals ends) (fun _ => (wX ad kc cI tolds hasImage n_heirs n_left n_bitten n_kinds n_figures k_heirs k_left k_bitten k_kinds k_figures t_heirs t_left t_bitten t_kinds t_figures o.2.1 o.2.2.1 o.2.2.2.1 o.2.2.2.2.1 c_ways c_fewest c_nextWays c_nextFewest x_length x_letters told o.2.2.2.2.2 ends)) (some (.int o.1)) := by
  refine Ct.of (cc := cX5_shares) (nL := 2) (ret := (some .int)) (own := RX5) (by decide) (Nat.le_of_ble_eq_true rfl) rfl ?_
  intro p e s m args below meth c A C hr hlk hnm
  refine s_lv (lv1 := [(0, .ref (ad 0)), (1, .int a1)]) [0, 1] rfl ?_
  unfold f_X5_shares at hf
  refine s_iload_n C 1 1 rfl dX5_shares_0 rfl ?_
  obtain ⟨r1, q2, hf⟩ := bn_s hf
  refine s_callS0 (host := "") (rest := []) C 4 (c_X5_isTwofold l D cI adK adV a1 r1 q2) (gS uu601 uu603 uu1 uu604) hd_X5_isTwofold rfl ⟨rfl, rfl⟩ ⟨Nat.le_of_ble_eq_true rfl, Nat.le_of_ble_eq_true rfl⟩ ⟨Nat.le_of_ble_eq_true rfl, Nat.le_of_ble_eq_true rfl⟩ rfl (Nat.le_of_ble_eq_true rfl) rfl dX5_shares_1 ?_
  refine s_if_ne C 14 7 rfl dX5_shares_4 rfl (fun hc10 => ?_) (fun hc10 => ?_)
  · replace hf := ite_f hc10 hf
    refine s_iload_n C 15 1 rfl dX5_shares_14 rfl ?_
    refine s_if_ne C 32 18 rfl dX5_shares_15 rfl (fun hc7 => ?_) (fun hc7 => ?_)
    · replace hf := ite_f hc7 hf
      refine s_aload_n C 33 0 rfl dX5_shares_32 rfl ?_
      obtain ⟨r3, q4, hf⟩ := bn_s hf
      refine s_callW (T := TX5) (N := 11) (ci := 4) (q0 := 0) (rest := []) C 36 (c_X5_richest l D cI adK adV ad kc tolds hasImage n_heirs n_left n_bitten n_kinds n_figures k_heirs k_left k_bitten k_kinds k_figures t_heirs t_left t_bitten t_kinds t_figures r_gone r_heaps r_fewestCells r_deed c_ways c_fewest c_nextWays c_nextFewest x_length x_letters told refusals ends r3 q4) (gV uu611 uu613 uu1552 uu1 uu614) hd_X5_richest rfl ⟨rfl, rfl⟩ ⟨Nat.le_of_ble_eq_true rfl, Nat.le_of_ble_eq_true rfl⟩ ⟨Nat.le_of_ble_eq_true rfl, Nat.le_of_ble_eq_true rfl⟩ rfl rfl rfl (Nat.le_of_ble_eq_true rfl) rfl dX5_shares_33 (fun _ => ?_)
      obtain rfl := Option.some.inj hf
      exact s_iret C kc hr hlk rfl rfl dX5_shares_36
    · replace hf := ite_t hc7 hf
      refine s_aload_n C 19 0 rfl dX5_shares_18 rfl ?_
      refine s_aload_n C 20 0 rfl dX5_shares_19 rfl ?_
      refine s_get (C1 := RX5) (T := TX5) (N := 11) (ci := 4) C 23 0 0 uX5 rfl rfl (Nat.le_of_ble_eq_true rfl) uu130 rfl rfl rfl dX5_shares_20 ?_
      refine s_get (C1 := RX0) (T := TX0) (N := 5) (ci := 0) C 26 1 3 uX0 rfl rfl (Nat.le_of_ble_eq_true rfl) uu53 rfl rfl rfl dX5_shares_23 ?_
      obtain ⟨r5, q6, hf⟩ := bn_s hf
      refine s_callW (T := TX5) (N := 11) (ci := 4) (q0 := 0) (rest := []) C 29 (c_X5_sharesTogether l D cI adK adV ad kc tolds hasImage n_heirs n_left n_bitten n_kinds n_figures k_heirs k_left k_bitten k_kinds k_figures t_heirs t_left t_bitten t_kinds t_figures r_gone r_heaps r_fewestCells r_deed c_ways c_fewest c_nextWays c_nextFewest x_length x_letters told refusals ends n_left r5 q6) (gV uu606 uu608 uu1551 uu1 uu609) hd_X5_sharesTogether rfl ⟨rfl, rfl⟩ ⟨Nat.le_of_ble_eq_true rfl, Nat.le_of_ble_eq_true rfl⟩ ⟨Nat.le_of_ble_eq_true rfl, Nat.le_of_ble_eq_true rfl⟩ rfl rfl rfl (Nat.le_of_ble_eq_true rfl) rfl dX5_shares_26 (fun _ => ?_)
      refine s_goto C 36 dX5_shares_29 rfl ?_
      obtain rfl := Option.some.inj hf
      exact s_iret C kc hr hlk rfl rfl dX5_shares_36
  · replace hf := ite_t hc10 hf
    refine s_aload_n C 8 0 rfl dX5_shares_7 rfl ?_
    refine s_bipush C 10 rfl dX5_shares_8 bp_m2 ?_
    obtain ⟨r8, q9, hf⟩ := bn_s hf
    refine s_callW (T := TX5) (N := 11) (ci := 4) (q0 := 0) (rest := []) C 13 (c_X5_refused l D cI adK adV ad kc tolds hasImage n_heirs n_left n_bitten n_kinds n_figures k_heirs k_left k_bitten k_kinds k_figures t_heirs t_left t_bitten t_kinds t_figures r_gone r_heaps r_fewestCells r_deed c_ways c_fewest c_nextWays c_nextFewest x_length x_letters told refusals ends (-2 : Int32) r8 q9) (gV uu169 uu171 uu1541 uu1 uu172) hd_X5_refused rfl ⟨rfl, rfl⟩ ⟨Nat.le_of_ble_eq_true rfl, Nat.le_of_ble_eq_true rfl⟩ ⟨Nat.le_of_ble_eq_true rfl, Nat.le_of_ble_eq_true rfl⟩ rfl rfl rfl (Nat.le_of_ble_eq_true rfl) rfl dX5_shares_10 (fun _ => ?_)
    obtain rfl := Option.some.inj hf
    exact s_iret C kc hr hlk rfl rfl dX5_shares_13


theorem hd_X5_mean : yX5_mean.cls = RX5 ∧ yX5_mean.cls ≠ "java/lang/invoke/MethodHandle" ∧ yX5_mean.cls ≠ "java/lang/invoke/VarHandle" ∧ (parseMethodDescriptor yX5_mean.desc).map (fun d => d.parameters.length) = some 1 := by decide +kernel
set_option maxHeartbeats 4000000 in
set_option maxRecDepth 100000 in
theorem c_X5_mean (l : Launch) (D : va_G) (cI : ClassId) (adK adV : Nat → Nat) (ad : Nat → Nat) (kc : Nat → Nat) (tolds : Int32) (hasImage : Int32) (n_heirs : Int32) (n_left : Int32) (n_bitten : Int32) (n_kinds : (Nat → Int32)) (n_figures : (Nat → Int32)) (k_heirs : Int32) (k_left : Int32) (k_bitten : Int32) (k_kinds : (Nat → Int32)) (k_figures : (Nat → Int32)) (t_heirs : Int32) (t_left : Int32) (t_bitten : Int32) (t_kinds : (Nat → Int32)) (t_figures : (Nat → Int32)) (r_gone : Int32) (r_heaps : Int32) (r_fewestCells : Int32) (r_deed : Int32) (c_ways : (Nat → Int32)) (c_fewest : (Nat → Int32)) (c_nextWays : (Nat → Int32)) (c_nextFewest : (Nat → Int32)) (x_length : Int32) (x_letters : (Nat → Int32)) (told : (Nat → Int32)) (refusals : (Nat → Int32)) (ends : (Nat → Int32)) (a1 : Int32) (o : Int64 × Int32 × Int32 × Int32 × Int32 × (Nat → Int32)) (hf : f_X5_mean n_heirs n_left n_kinds n_figures r_gone r_heaps r_fewestCells r_deed refusals a1 = some o) : Ct l D cI adK adV yX5_mean (wy yX5_mean cX5_mean 2 (some .long)) { frames := 4, cells := 0, slots := 0, locals := 94 } 0 0 [.ref (ad 0), .int a1] (wX ad kc cI tolds hasImage n_heirs n_left n_bitten n_kinds n_figures k_heirs k_left k_bitten k_kinds k_figures t_heirs t_left t_bitten t_kinds t_figures r_gone r_heaps r_fewestCells r_deed c_ways c_fewest c_nextWays c_nextFewest x_length x_letters told refusals ends) (fun _ => (wX ad kc cI tolds hasImage n_heirs n_left n_bitten n_kinds n_figures k_heirs k_left k_bitten k_kinds k_figures t_heirs t_left t_bitten t_kinds t_figures o.2.1 o.2.2.1 o.2.2.2.1 o.2.2.2.2.1 c_ways c_fewest c_nextWays c_nextFewest x_length x_letters told o.2.2.2.2.2 ends)) (some (.long o.1)) := by
  refine Ct.of (cc := cX5_mean) (nL := 2) (ret := (some .long)) (own := RX5) (by decide) (Nat.le_of_ble_eq_true rfl) rfl ?_
  intro p e s m args below meth c A C hr hlk hnm
  refine s_lv (lv1 := [(0, .ref (ad 0)), (1, .int a1)]) [0, 1] rfl ?_
  unfold f_X5_mean at hf
  refine s_iload_n C 1 1 rfl dX5_mean_0 rfl ?_
  obtain ⟨r1, q2, hf⟩ := bn_s hf
  refine s_callS0 (host := "") (rest := []) C 4 (c_X5_isTwofold l D cI adK adV a1 r1 q2) (gS uu601 uu603 uu1 uu604) hd_X5_isTwofold rfl ⟨rfl, rfl⟩ ⟨Nat.le_of_ble_eq_true rfl, Nat.le_of_ble_eq_true rfl⟩ ⟨Nat.le_of_ble_eq_true rfl, Nat.le_of_ble_eq_true rfl⟩ rfl (Nat.le_of_ble_eq_true rfl) rfl dX5_mean_1 ?_
  refine s_if_ne C 19 7 rfl dX5_mean_4 rfl (fun hc9 => ?_) (fun hc9 => ?_)
  · replace hf := ite_f hc9 hf
    refine s_aload_n C 20 0 rfl dX5_mean_19 rfl ?_
    refine s_aload_n C 21 0 rfl dX5_mean_20 rfl ?_
    refine s_get (C1 := RX5) (T := TX5) (N := 11) (ci := 4) C 24 0 0 uX5 rfl rfl (Nat.le_of_ble_eq_true rfl) uu130 rfl rfl rfl dX5_mean_21 ?_
    refine s_get (C1 := RX0) (T := TX0) (N := 5) (ci := 0) C 27 1 3 uX0 rfl rfl (Nat.le_of_ble_eq_true rfl) uu53 rfl rfl rfl dX5_mean_24 ?_
    obtain ⟨r3, q4, hf⟩ := bn_s hf
    refine s_callW (T := TX5) (N := 11) (ci := 4) (q0 := 0) (rest := []) C 30 (c_X5_sharesTogether l D cI adK adV ad kc tolds hasImage n_heirs n_left n_bitten n_kinds n_figures k_heirs k_left k_bitten k_kinds k_figures t_heirs t_left t_bitten t_kinds t_figures r_gone r_heaps r_fewestCells r_deed c_ways c_fewest c_nextWays c_nextFewest x_length x_letters told refusals ends n_left r3 q4) (gV uu606 uu608 uu1551 uu1 uu609) hd_X5_sharesTogether rfl ⟨rfl, rfl⟩ ⟨Nat.le_of_ble_eq_true rfl, Nat.le_of_ble_eq_true rfl⟩ ⟨Nat.le_of_ble_eq_true rfl, Nat.le_of_ble_eq_true rfl⟩ rfl rfl rfl (Nat.le_of_ble_eq_true rfl) rfl dX5_mean_27 (fun _ => ?_)
    refine s_iconst C 31 rfl dX5_mean_30 ic_1 ?_
    refine s_aload_n C 32 0 rfl dX5_mean_31 rfl ?_
    refine s_get (C1 := RX5) (T := TX5) (N := 11) (ci := 4) C 35 0 0 uX5 rfl rfl (Nat.le_of_ble_eq_true rfl) uu130 rfl rfl rfl dX5_mean_32 ?_
    refine s_get (C1 := RX0) (T := TX0) (N := 5) (ci := 0) C 38 1 2 uX0 rfl rfl (Nat.le_of_ble_eq_true rfl) uu49 rfl rfl rfl dX5_mean_35 ?_
    refine s_mmax C 41 uu465 uu310 uu11 uu311 ⟨Nat.le_of_ble_eq_true rfl, Nat.le_of_ble_eq_true rfl, Nat.le_of_ble_eq_true rfl, Nat.le_of_ble_eq_true rfl⟩ rfl dX5_mean_38 ?_
    refine s_iload_n C 42 1 rfl dX5_mean_41 rfl ?_
    obtain ⟨r5, q6, hf⟩ := bn_s hf
    refine s_callS0 (host := "") (rest := []) C 45 (c_X5_partOf l D cI adK adV r3.1 (jmax (1 : Int32) n_heirs) a1 r5 q6) (gS uu880 uu882 uu1 uu883) hd_X5_partOf rfl ⟨rfl, rfl⟩ ⟨Nat.le_of_ble_eq_true rfl, Nat.le_of_ble_eq_true rfl⟩ ⟨Nat.le_of_ble_eq_true rfl, Nat.le_of_ble_eq_true rfl⟩ rfl (Nat.le_of_ble_eq_true rfl) rfl dX5_mean_42 ?_
    obtain rfl := Option.some.inj hf
    exact s_lret C kc hr hlk rfl rfl dX5_mean_45
  · replace hf := ite_t hc9 hf
    refine s_ldc2_w C 10 rfl dX5_mean_7 uu878 ?_
    refine s_aload_n C 11 0 rfl dX5_mean_10 rfl ?_
    refine s_bipush C 13 rfl dX5_mean_11 bp_m2 ?_
    obtain ⟨r7, q8, hf⟩ := bn_s hf
    refine s_callW (T := TX5) (N := 11) (ci := 4) (q0 := 0) (rest := [.long (4000000000000000000 : Int64)]) C 16 (c_X5_refused l D cI adK adV ad kc tolds hasImage n_heirs n_left n_bitten n_kinds n_figures k_heirs k_left k_bitten k_kinds k_figures t_heirs t_left t_bitten t_kinds t_figures r_gone r_heaps r_fewestCells r_deed c_ways c_fewest c_nextWays c_nextFewest x_length x_letters told refusals ends (-2 : Int32) r7 q8) (gV uu169 uu171 uu1541 uu1 uu172) hd_X5_refused rfl ⟨rfl, rfl⟩ ⟨Nat.le_of_ble_eq_true rfl, Nat.le_of_ble_eq_true rfl⟩ ⟨Nat.le_of_ble_eq_true rfl, Nat.le_of_ble_eq_true rfl⟩ rfl rfl rfl (Nat.le_of_ble_eq_true rfl) rfl dX5_mean_13 (fun _ => ?_)
    refine s_i2l C 17 rfl dX5_mean_16 ?_
    refine s_lsub C 18 rfl dX5_mean_17 ?_
    obtain rfl := Option.some.inj hf
    exact s_lret C kc hr hlk rfl rfl dX5_mean_18


theorem hd_X5_whatIs : yX5_whatIs.cls = RX5 ∧ yX5_whatIs.cls ≠ "java/lang/invoke/MethodHandle" ∧ yX5_whatIs.cls ≠ "java/lang/invoke/VarHandle" ∧ (parseMethodDescriptor yX5_whatIs.desc).map (fun d => d.parameters.length) = some 2 := by decide +kernel
set_option maxHeartbeats 4000000 in
set_option maxRecDepth 100000 in
theorem c_X5_whatIs (l : Launch) (D : va_G) (cI : ClassId) (adK adV : Nat → Nat) (ad : Nat → Nat) (kc : Nat → Nat) (tolds : Int32) (hasImage : Int32) (n_heirs : Int32) (n_left : Int32) (n_bitten : Int32) (n_kinds : (Nat → Int32)) (n_figures : (Nat → Int32)) (k_heirs : Int32) (k_left : Int32) (k_bitten : Int32) (k_kinds : (Nat → Int32)) (k_figures : (Nat → Int32)) (t_heirs : Int32) (t_left : Int32) (t_bitten : Int32) (t_kinds : (Nat → Int32)) (t_figures : (Nat → Int32)) (r_gone : Int32) (r_heaps : Int32) (r_fewestCells : Int32) (r_deed : Int32) (c_ways : (Nat → Int32)) (c_fewest : (Nat → Int32)) (c_nextWays : (Nat → Int32)) (c_nextFewest : (Nat → Int32)) (x_length : Int32) (x_letters : (Nat → Int32)) (told : (Nat → Int32)) (refusals : (Nat → Int32)) (ends : (Nat → Int32)) (a1 : Int32) (a2 : Int32) (o : Int32 × Int32 × Int32 × Int32 × Int32 × (Nat → Int32)) (hf : f_X5_whatIs tolds n_heirs n_left n_kinds n_figures r_gone r_heaps r_fewestCells r_deed told refusals a1 a2 = some o) : Ct l D cI adK adV yX5_whatIs (wy yX5_whatIs cX5_whatIs 8 (some .int)) { frames := 4, cells := 0, slots := 0, locals := 95 } 0 0 [.ref (ad 0), .int a1, .int a2] (wX ad kc cI tolds hasImage n_heirs n_left n_bitten n_kinds n_figures k_heirs k_left k_bitten k_kinds k_figures t_heirs t_left t_bitten t_kinds t_figures r_gone r_heaps r_fewestCells r_deed c_ways c_fewest c_nextWays c_nextFewest x_length x_letters told refusals ends) (fun _ => (wX ad kc cI tolds hasImage n_heirs n_left n_bitten n_kinds n_figures k_heirs k_left k_bitten k_kinds k_figures t_heirs t_left t_bitten t_kinds t_figures o.2.1 o.2.2.1 o.2.2.2.1 o.2.2.2.2.1 c_ways c_fewest c_nextWays c_nextFewest x_length x_letters told o.2.2.2.2.2 ends)) (some (.int o.1)) := by
  refine Ct.of (cc := cX5_whatIs) (nL := 8) (ret := (some .int)) (own := RX5) (by decide) (Nat.le_of_ble_eq_true rfl) rfl ?_
  intro p e s m args below meth c A C hr hlk hnm
  refine s_lv (lv1 := [(0, .ref (ad 0)), (1, .int a1), (2, .int a2)]) [0, 1, 2] rfl ?_
  unfold f_X5_whatIs at hf
  refine s_aload_n C 1 0 rfl dX5_whatIs_0 rfl ?_
  refine s_iload_n C 2 1 rfl dX5_whatIs_1 rfl ?_
  obtain ⟨r1, q2, hf⟩ := bn_s hf
  refine s_callW (T := TX5) (N := 11) (ci := 4) (q0 := 0) (rest := []) C 5 (c_X5_isHeir l D cI adK adV ad kc tolds hasImage n_heirs n_left n_bitten n_kinds n_figures k_heirs k_left k_bitten k_kinds k_figures t_heirs t_left t_bitten t_kinds t_figures r_gone r_heaps r_fewestCells r_deed c_ways c_fewest c_nextWays c_nextFewest x_length x_letters told refusals ends a1 r1 q2) (gV uu511 uu513 uu1547 uu1 uu514) hd_X5_isHeir rfl ⟨rfl, rfl⟩ ⟨Nat.le_of_ble_eq_true rfl, Nat.le_of_ble_eq_true rfl⟩ ⟨Nat.le_of_ble_eq_true rfl, Nat.le_of_ble_eq_true rfl⟩ rfl rfl rfl (Nat.le_of_ble_eq_true rfl) rfl dX5_whatIs_2 (fun _ => ?_)
  refine s_if_ne C 14 8 rfl dX5_whatIs_5 rfl (fun hc36 => ?_) (fun hc36 => ?_)
  · replace hf := ite_f hc36 hf
    refine s_iload_n C 15 2 rfl dX5_whatIs_14 rfl ?_
    obtain ⟨r3, q4, hf⟩ := bn_s hf
    refine s_callS0 (host := "") (rest := []) C 18 (c_X5_isTwofold l D cI adK adV a2 r3 q4) (gS uu601 uu603 uu1 uu604) hd_X5_isTwofold rfl ⟨rfl, rfl⟩ ⟨Nat.le_of_ble_eq_true rfl, Nat.le_of_ble_eq_true rfl⟩ ⟨Nat.le_of_ble_eq_true rfl, Nat.le_of_ble_eq_true rfl⟩ rfl (Nat.le_of_ble_eq_true rfl) rfl dX5_whatIs_15 ?_
    refine s_if_ne C 28 21 rfl dX5_whatIs_18 rfl (fun hc33 => ?_) (fun hc33 => ?_)
    · replace hf := ite_f hc33 hf
      refine s_iconst C 29 rfl dX5_whatIs_28 ic_0 ?_
      refine s_istore_n (lv1 := [(3, .int (0 : Int32)), (0, .ref (ad 0)), (1, .int a1), (2, .int a2)]) C 30 3 rfl dX5_whatIs_29 rfl (Nat.le_of_ble_eq_true rfl) rfl ?_
      refine s_iload_n C 31 3 rfl dX5_whatIs_30 rfl ?_
      refine s_jn (α := Int32) 41 (fun j5 => [(0, .ref (ad 0)), (1, .int a1), (2, .int a2), (3, .int (0 : Int32))]) (fun j5 => [.int j5]) (fun j5 => (wX ad kc cI tolds hasImage n_heirs n_left n_bitten n_kinds n_figures k_heirs k_left k_bitten k_kinds k_figures t_heirs t_left t_bitten t_kinds t_figures r_gone r_heaps r_fewestCells r_deed c_ways c_fewest c_nextWays c_nextFewest x_length x_letters told refusals ends)) hf (fun j5 hf => ?_) (fun hj hf => ?_)
      · refine s_istore (lv1 := [(4, .int j5), (0, .ref (ad 0)), (1, .int a1), (2, .int a2), (3, .int (0 : Int32))]) C 43 4 rfl dX5_whatIs_41 (Nat.le_of_ble_eq_true rfl) rfl ?_
        refine s_iconst C 44 rfl dX5_whatIs_43 ic_0 ?_
        refine s_istore (lv1 := [(5, .int (0 : Int32)), (4, .int j5), (0, .ref (ad 0)), (1, .int a1), (2, .int a2), (3, .int (0 : Int32))]) C 46 5 rfl dX5_whatIs_44 (Nat.le_of_ble_eq_true rfl) rfl ?_
        refine s_lv (lv1 := [(0, .ref (ad 0)), (1, .int a1), (2, .int a2), (3, .int (0 : Int32)), (4, .int j5), (5, .int (0 : Int32))]) [2, 3, 4, 5, 1, 0] rfl ?_
        refine s_loop (α := Int32 × Int32 × Int32 × Int32 × Int32 × Int32) (fun n v18 => f_X5_whatIs_46 a1 a2 j5 tolds n_left n_kinds n_figures told refusals n v18.1 v18.2.1 v18.2.2.1 v18.2.2.2.1 v18.2.2.2.2.1 v18.2.2.2.2.2) 46 (fun v18 => [(0, .ref (ad 0)), (1, .int a1), (2, .int a2), (3, .int v18.1), (4, .int j5), (5, .int v18.2.1)]) (fun v18 => (wX ad kc cI tolds hasImage n_heirs n_left n_bitten n_kinds n_figures k_heirs k_left k_bitten k_kinds k_figures t_heirs t_left t_bitten t_kinds t_figures v18.2.2.1 v18.2.2.2.1 v18.2.2.2.2.1 v18.2.2.2.2.2 c_ways c_fewest c_nextWays c_nextFewest x_length x_letters told refusals ends)) 1000 ((0 : Int32), (0 : Int32), r_gone, r_heaps, r_fewestCells, r_deed) hf (fun v18 hf => by simp only [f_X5_whatIs_46] at hf; exact absurd hf (by simp)) (fun n ih19 v18 hf => ?_)
        replace hf := (f_X5_whatIs_46_s _ _ _ _ _ _ _ _ _ _ _ _ _ _ _ _).symm.trans hf
        refine s_iload C 48 5 rfl dX5_whatIs_46 rfl ?_
        refine s_iload C 50 4 rfl dX5_whatIs_48 rfl ?_
        refine s_icmp_ge C 117 53 rfl dX5_whatIs_50 rfl (fun hc30 => ?_) (fun hc30 => ?_)
        · replace hf := ite_t hc30 hf
          refine s_iload_n C 118 3 rfl dX5_whatIs_117 rfl ?_
          obtain rfl := Option.some.inj hf
          exact s_iret C kc hr hlk rfl rfl dX5_whatIs_118
        · replace hf := ite_f hc30 hf
          refine s_iload_n C 54 2 rfl dX5_whatIs_53 rfl ?_
          refine s_bn (α := Int32) 71 (fun j20 => [(0, .ref (ad 0)), (1, .int a1), (2, .int a2), (3, .int v18.1), (4, .int j5), (5, .int v18.2.1)]) (fun j20 => [.int j20]) (fun j20 => (wX ad kc cI tolds hasImage n_heirs n_left n_bitten n_kinds n_figures k_heirs k_left k_bitten k_kinds k_figures t_heirs t_left t_bitten t_kinds t_figures v18.2.2.1 v18.2.2.2.1 v18.2.2.2.2.1 v18.2.2.2.2.2 c_ways c_fewest c_nextWays c_nextFewest x_length x_letters told refusals ends)) hf (fun j20 hf => ?_) (fun hj hf => ?_)
          · refine s_istore (lv1 := [(6, .int j20), (0, .ref (ad 0)), (1, .int a1), (2, .int a2), (3, .int v18.1), (4, .int j5), (5, .int v18.2.1)]) C 73 6 rfl dX5_whatIs_71 (Nat.le_of_ble_eq_true rfl) rfl ?_
            refine s_iload_n C 74 3 rfl dX5_whatIs_73 rfl ?_
            refine s_bn (α := Int32) 91 (fun j23 => [(0, .ref (ad 0)), (1, .int a1), (2, .int a2), (3, .int v18.1), (4, .int j5), (5, .int v18.2.1), (6, .int j20)]) (fun j23 => [.int j23]) (fun j23 => (wX ad kc cI tolds hasImage n_heirs n_left n_bitten n_kinds n_figures k_heirs k_left k_bitten k_kinds k_figures t_heirs t_left t_bitten t_kinds t_figures v18.2.2.1 v18.2.2.2.1 v18.2.2.2.2.1 v18.2.2.2.2.2 c_ways c_fewest c_nextWays c_nextFewest x_length x_letters told refusals ends)) hf (fun j23 hf => ?_) (fun hj hf => ?_)
            · refine s_istore (lv1 := [(7, .int j23), (0, .ref (ad 0)), (1, .int a1), (2, .int a2), (3, .int v18.1), (4, .int j5), (5, .int v18.2.1), (6, .int j20)]) C 93 7 rfl dX5_whatIs_91 (Nat.le_of_ble_eq_true rfl) rfl ?_
              refine s_aload_n C 94 1 rfl dX5_whatIs_93 rfl ?_
              refine s_iload C 96 7 rfl dX5_whatIs_94 rfl ?_
              refine s_iload C 98 0 rfl dX5_whatIs_96 rfl ?_
              obtain ⟨r26, q27, hf⟩ := bn_s hf
              refine s_callW (T := TX5) (N := 11) (ci := 4) (q0 := 0) (rest := []) C 101 (c_X5_fitsTold l D cI adK adV ad kc tolds hasImage n_heirs n_left n_bitten n_kinds n_figures k_heirs k_left k_bitten k_kinds k_figures t_heirs t_left t_bitten t_kinds t_figures v18.2.2.1 v18.2.2.2.1 v18.2.2.2.2.1 v18.2.2.2.2.2 c_ways c_fewest c_nextWays c_nextFewest x_length x_letters told refusals ends j20 j23 r26 q27) (gV uu907 uu909 uu1569 uu1 uu910) hd_X5_fitsTold rfl ⟨rfl, rfl⟩ ⟨Nat.le_of_ble_eq_true rfl, Nat.le_of_ble_eq_true rfl⟩ ⟨Nat.le_of_ble_eq_true rfl, Nat.le_of_ble_eq_true rfl⟩ rfl rfl rfl (Nat.le_of_ble_eq_true rfl) rfl dX5_whatIs_98 (fun _ => ?_)
              refine s_jn (α := Int32) 111 (fun j28 => [(0, .ref (ad 0)), (1, .int a1), (2, .int a2), (3, .int j28), (4, .int j5), (5, .int v18.2.1)]) (fun j28 => []) (fun j28 => (wX ad kc cI tolds hasImage n_heirs n_left n_bitten n_kinds n_figures k_heirs k_left k_bitten k_kinds k_figures t_heirs t_left t_bitten t_kinds t_figures r26.2.1 r26.2.2.1 r26.2.2.2.1 r26.2.2.2.2 c_ways c_fewest c_nextWays c_nextFewest x_length x_letters told refusals ends)) hf (fun j28 hf => ?_) (fun hj hf => ?_)
              · refine s_iinc (lv1 := [(5, .int (v18.2.1 + (1 : Int32))), (0, .ref (ad 0)), (1, .int a1), (2, .int a2), (3, .int j28), (4, .int j5)]) C 114 5 5 rfl dX5_whatIs_111 rfl ic_1 (Nat.le_of_ble_eq_true rfl) rfl ?_
                refine s_goto C 46 dX5_whatIs_114 rfl ?_
                exact s_lv [1, 2, 3, 4, 5, 0] rfl (ih19 ((j28, v18.2.1 + (1 : Int32), r26.2.1, r26.2.2.1, r26.2.2.2.1, r26.2.2.2.2) : Int32 × Int32 × Int32 × Int32 × Int32 × Int32) hf)
              · refine s_if_eq C 111 104 rfl dX5_whatIs_101 rfl (fun hc29 => ?_) (fun hc29 => ?_)
                · replace hf := jn_t hc29 hf
                  replace hf := jn_i hf
                  exact s_lv [1, 2, 3, 4, 5, 6] rfl (hj (v18.1 : Int32) hf)
                · replace hf := jn_f hc29 hf
                  refine s_iload_n C 105 4 rfl dX5_whatIs_104 rfl ?_
                  refine s_iconst C 106 rfl dX5_whatIs_105 ic_1 ?_
                  refine s_iload C 108 6 rfl dX5_whatIs_106 rfl ?_
                  refine s_ishl C 109 rfl dX5_whatIs_108 ?_
                  refine s_ior C 110 rfl dX5_whatIs_109 ?_
                  refine s_istore_n (lv1 := [(3, .int (v18.1 ||| (jshl (1 : Int32) v18.2.1))), (7, .int j23), (0, .ref (ad 0)), (1, .int a1), (2, .int a2), (4, .int j5), (5, .int v18.2.1), (6, .int j20)]) C 111 3 rfl dX5_whatIs_110 rfl (Nat.le_of_ble_eq_true rfl) rfl ?_
                  replace hf := jn_i hf
                  exact s_lv [2, 3, 4, 0, 5, 6] rfl (hj (v18.1 ||| (jshl (1 : Int32) v18.2.1) : Int32) hf)
            · refine s_if_ne C 89 77 rfl dX5_whatIs_74 rfl (fun hc25 => ?_) (fun hc25 => ?_)
              · replace hf := bn_f hc25 hf
                refine s_iload C 91 6 rfl dX5_whatIs_89 rfl ?_
                replace hf := bn_i hf
                exact s_lv [1, 2, 3, 4, 5, 6, 0] rfl (hj (v18.2.1 : Int32) hf)
              · replace hf := bn_t hc25 hf
                refine s_aload_n C 78 1 rfl dX5_whatIs_77 rfl ?_
                refine s_get (C1 := RX5) (T := TX5) (N := 11) (ci := 4) C 81 0 0 uX5 rfl rfl (Nat.le_of_ble_eq_true rfl) uu130 rfl rfl rfl dX5_whatIs_78 ?_
                refine s_get (C1 := RX0) (T := TX0) (N := 5) (ci := 0) C 84 1 1 uX0 rfl rfl (Nat.le_of_ble_eq_true rfl) uu45 rfl rfl rfl dX5_whatIs_81 ?_
                refine s_iload_n C 85 2 rfl dX5_whatIs_84 rfl ?_
                obtain ⟨h24, hf⟩ := ck_inb hf
                refine s_iald C 86 3 rfl h24 rfl dX5_whatIs_85 ?_
                refine s_goto C 91 dX5_whatIs_86 rfl ?_
                replace hf := bn_i hf
                exact s_lv [1, 2, 3, 4, 5, 6, 0] rfl (hj (n_figures a1.toNatClampNeg : Int32) hf)
          · refine s_if_ne C 62 57 rfl dX5_whatIs_54 rfl (fun hc22 => ?_) (fun hc22 => ?_)
            · replace hf := bn_f hc22 hf
              refine s_aload_n C 63 0 rfl dX5_whatIs_62 rfl ?_
              refine s_get (C1 := RX5) (T := TX5) (N := 11) (ci := 4) C 66 0 0 uX5 rfl rfl (Nat.le_of_ble_eq_true rfl) uu130 rfl rfl rfl dX5_whatIs_63 ?_
              refine s_get (C1 := RX0) (T := TX0) (N := 5) (ci := 0) C 69 1 0 uX0 rfl rfl (Nat.le_of_ble_eq_true rfl) uu41 rfl rfl rfl dX5_whatIs_66 ?_
              refine s_iload_n C 70 1 rfl dX5_whatIs_69 rfl ?_
              obtain ⟨h21, hf⟩ := ck_inb hf
              refine s_iald C 71 2 rfl h21 rfl dX5_whatIs_70 ?_
              replace hf := bn_i hf
              exact s_lv [0, 1, 2, 3, 4, 5] rfl (hj (n_kinds a1.toNatClampNeg : Int32) hf)
            · replace hf := bn_t hc22 hf
              refine s_iload C 59 5 rfl dX5_whatIs_57 rfl ?_
              refine s_goto C 71 dX5_whatIs_59 rfl ?_
              replace hf := bn_i hf
              exact s_lv [0, 1, 2, 3, 4, 5] rfl (hj (v18.2.1 : Int32) hf)
      · refine s_if_ne C 39 34 rfl dX5_whatIs_31 rfl (fun hc6 => ?_) (fun hc6 => ?_)
        · replace hf := jn_f hc6 hf
          refine s_bipush C 41 rfl dX5_whatIs_39 bp_10 ?_
          replace hf := jn_i hf
          exact s_lv [1, 2, 3, 0] rfl (hj ((10 : Int32) : Int32) hf)
        · replace hf := jn_t hc6 hf
          refine s_bipush C 36 rfl dX5_whatIs_34 bp_6 ?_
          refine s_goto C 41 dX5_whatIs_36 rfl ?_
          replace hf := jn_i hf
          exact s_lv [1, 2, 3, 0] rfl (hj ((6 : Int32) : Int32) hf)
    · replace hf := ite_t hc33 hf
      refine s_aload_n C 22 0 rfl dX5_whatIs_21 rfl ?_
      refine s_bipush C 24 rfl dX5_whatIs_22 bp_m2 ?_
      obtain ⟨r31, q32, hf⟩ := bn_s hf
      refine s_callW (T := TX5) (N := 11) (ci := 4) (q0 := 0) (rest := []) C 27 (c_X5_refused l D cI adK adV ad kc tolds hasImage n_heirs n_left n_bitten n_kinds n_figures k_heirs k_left k_bitten k_kinds k_figures t_heirs t_left t_bitten t_kinds t_figures r_gone r_heaps r_fewestCells r_deed c_ways c_fewest c_nextWays c_nextFewest x_length x_letters told refusals ends (-2 : Int32) r31 q32) (gV uu169 uu171 uu1541 uu1 uu172) hd_X5_refused rfl ⟨rfl, rfl⟩ ⟨Nat.le_of_ble_eq_true rfl, Nat.le_of_ble_eq_true rfl⟩ ⟨Nat.le_of_ble_eq_true rfl, Nat.le_of_ble_eq_true rfl⟩ rfl rfl rfl (Nat.le_of_ble_eq_true rfl) rfl dX5_whatIs_24 (fun _ => ?_)
      obtain rfl := Option.some.inj hf
      exact s_iret C kc hr hlk rfl rfl dX5_whatIs_27
  · replace hf := ite_t hc36 hf
    refine s_aload_n C 9 0 rfl dX5_whatIs_8 rfl ?_
    refine s_iconst C 10 rfl dX5_whatIs_9 ic_m1 ?_
    obtain ⟨r34, q35, hf⟩ := bn_s hf
    refine s_callW (T := TX5) (N := 11) (ci := 4) (q0 := 0) (rest := []) C 13 (c_X5_refused l D cI adK adV ad kc tolds hasImage n_heirs n_left n_bitten n_kinds n_figures k_heirs k_left k_bitten k_kinds k_figures t_heirs t_left t_bitten t_kinds t_figures r_gone r_heaps r_fewestCells r_deed c_ways c_fewest c_nextWays c_nextFewest x_length x_letters told refusals ends (-1 : Int32) r34 q35) (gV uu169 uu171 uu1541 uu1 uu172) hd_X5_refused rfl ⟨rfl, rfl⟩ ⟨Nat.le_of_ble_eq_true rfl, Nat.le_of_ble_eq_true rfl⟩ ⟨Nat.le_of_ble_eq_true rfl, Nat.le_of_ble_eq_true rfl⟩ rfl rfl rfl (Nat.le_of_ble_eq_true rfl) rfl dX5_whatIs_10 (fun _ => ?_)
    obtain rfl := Option.some.inj hf
    exact s_iret C kc hr hlk rfl rfl dX5_whatIs_13


theorem hd_X5_judge : yX5_judge.cls = RX5 ∧ yX5_judge.cls ≠ "java/lang/invoke/MethodHandle" ∧ yX5_judge.cls ≠ "java/lang/invoke/VarHandle" ∧ (parseMethodDescriptor yX5_judge.desc).map (fun d => d.parameters.length) = some 0 := by decide +kernel
set_option maxHeartbeats 4000000 in
set_option maxRecDepth 100000 in
theorem c_X5_judge (l : Launch) (D : va_G) (cI : ClassId) (adK adV : Nat → Nat) (ad : Nat → Nat) (kc : Nat → Nat) (tolds : Int32) (hasImage : Int32) (n_heirs : Int32) (n_left : Int32) (n_bitten : Int32) (n_kinds : (Nat → Int32)) (n_figures : (Nat → Int32)) (k_heirs : Int32) (k_left : Int32) (k_bitten : Int32) (k_kinds : (Nat → Int32)) (k_figures : (Nat → Int32)) (t_heirs : Int32) (t_left : Int32) (t_bitten : Int32) (t_kinds : (Nat → Int32)) (t_figures : (Nat → Int32)) (r_gone : Int32) (r_heaps : Int32) (r_fewestCells : Int32) (r_deed : Int32) (c_ways : (Nat → Int32)) (c_fewest : (Nat → Int32)) (c_nextWays : (Nat → Int32)) (c_nextFewest : (Nat → Int32)) (x_length : Int32) (x_letters : (Nat → Int32)) (told : (Nat → Int32)) (refusals : (Nat → Int32)) (ends : (Nat → Int32))  (o : Int32 × Int32 × Int32 × Int32 × Int32 × Int32) (hf : f_X5_judge tolds n_heirs n_left n_kinds n_figures told = some o) : Ct l D cI adK adV yX5_judge (wy yX5_judge cX5_judge 2 (some .int)) { frames := 4, cells := 0, slots := 0, locals := 92 } 0 0 [.ref (ad 0)] (wX ad kc cI tolds hasImage n_heirs n_left n_bitten n_kinds n_figures k_heirs k_left k_bitten k_kinds k_figures t_heirs t_left t_bitten t_kinds t_figures r_gone r_heaps r_fewestCells r_deed c_ways c_fewest c_nextWays c_nextFewest x_length x_letters told refusals ends) (fun _ => (wX ad kc cI o.2.1 hasImage n_heirs n_left n_bitten n_kinds n_figures k_heirs k_left k_bitten k_kinds k_figures t_heirs t_left t_bitten t_kinds t_figures o.2.2.1 o.2.2.2.1 o.2.2.2.2.1 o.2.2.2.2.2 c_ways c_fewest c_nextWays c_nextFewest x_length x_letters told refusals ends)) (some (.int o.1)) := by
  refine Ct.of (cc := cX5_judge) (nL := 2) (ret := (some .int)) (own := RX5) (by decide) (Nat.le_of_ble_eq_true rfl) rfl ?_
  intro p e s m args below meth c A C hr hlk hnm
  refine s_lv (lv1 := [(0, .ref (ad 0))]) [0] rfl ?_
  unfold f_X5_judge at hf
  refine s_aload_n C 1 0 rfl dX5_judge_0 rfl ?_
  obtain ⟨r1, q2, hf⟩ := bn_s hf
  refine s_callW (T := TX5) (N := 11) (ci := 4) (q0 := 0) (rest := []) C 4 (c_X5_firstWronglyTold l D cI adK adV ad kc tolds hasImage n_heirs n_left n_bitten n_kinds n_figures k_heirs k_left k_bitten k_kinds k_figures t_heirs t_left t_bitten t_kinds t_figures r_gone r_heaps r_fewestCells r_deed c_ways c_fewest c_nextWays c_nextFewest x_length x_letters told refusals ends r1 q2) (gV uu924 uu926 uu1570 uu1 uu927) hd_X5_firstWronglyTold rfl ⟨rfl, rfl⟩ ⟨Nat.le_of_ble_eq_true rfl, Nat.le_of_ble_eq_true rfl⟩ ⟨Nat.le_of_ble_eq_true rfl, Nat.le_of_ble_eq_true rfl⟩ rfl rfl rfl (Nat.le_of_ble_eq_true rfl) rfl dX5_judge_1 (fun _ => ?_)
  refine s_istore_n (lv1 := [(1, .int r1.1), (0, .ref (ad 0))]) C 5 1 rfl dX5_judge_4 rfl (Nat.le_of_ble_eq_true rfl) rfl ?_
  refine s_aload_n C 6 1 rfl dX5_judge_5 rfl ?_
  refine s_iconst C 7 rfl dX5_judge_6 ic_0 ?_
  refine s_put (C1 := RX5) (T := TX5) (N := 11) (ci := 4) (ty := tyX5 9) (ws1 := (wX ad kc cI (0 : Int32) hasImage n_heirs n_left n_bitten n_kinds n_figures k_heirs k_left k_bitten k_kinds k_figures t_heirs t_left t_bitten t_kinds t_figures r1.2.1 r1.2.2.1 r1.2.2.2.1 r1.2.2.2.2 c_ways c_fewest c_nextWays c_nextFewest x_length x_letters told refusals ends)) C 10 0 9 uX5 tyX5 tyX5_ok nmX5 rfl rfl (Nat.le_of_ble_eq_true rfl) uu148 rfl rfl (tyX5_ok 9 (Nat.le_of_ble_eq_true rfl)) ⟨rfl, rfl⟩ (Nat.le_of_ble_eq_true rfl) rfl rfl dX5_judge_7 ?_
  refine s_iload_n C 11 0 rfl dX5_judge_10 rfl ?_
  obtain rfl := Option.some.inj hf
  exact s_iret C kc hr hlk rfl rfl dX5_judge_11


theorem hd_X5_lots : yX5_lots.cls = RX5 ∧ yX5_lots.cls ≠ "java/lang/invoke/MethodHandle" ∧ yX5_lots.cls ≠ "java/lang/invoke/VarHandle" ∧ (parseMethodDescriptor yX5_lots.desc).map (fun d => d.parameters.length) = some 3 := by decide +kernel
set_option maxHeartbeats 4000000 in
set_option maxRecDepth 100000 in
theorem c_X5_lots (l : Launch) (D : va_G) (cI : ClassId) (adK adV : Nat → Nat) (ad : Nat → Nat) (kc : Nat → Nat) (tolds : Int32) (hasImage : Int32) (n_heirs : Int32) (n_left : Int32) (n_bitten : Int32) (n_kinds : (Nat → Int32)) (n_figures : (Nat → Int32)) (k_heirs : Int32) (k_left : Int32) (k_bitten : Int32) (k_kinds : (Nat → Int32)) (k_figures : (Nat → Int32)) (t_heirs : Int32) (t_left : Int32) (t_bitten : Int32) (t_kinds : (Nat → Int32)) (t_figures : (Nat → Int32)) (r_gone : Int32) (r_heaps : Int32) (r_fewestCells : Int32) (r_deed : Int32) (c_ways : (Nat → Int32)) (c_fewest : (Nat → Int32)) (c_nextWays : (Nat → Int32)) (c_nextFewest : (Nat → Int32)) (x_length : Int32) (x_letters : (Nat → Int32)) (told : (Nat → Int32)) (refusals : (Nat → Int32)) (ends : (Nat → Int32)) (a1 : Int32) (a2 : Int32) (a3 : Int32) (o : Int32 × Int32 × Int32 × Int32 × Int32 × (Nat → Int32)) (hf : f_X5_lots n_heirs n_left n_kinds n_figures r_gone r_heaps r_fewestCells r_deed refusals a1 a2 a3 = some o) : Ct l D cI adK adV yX5_lots (wy yX5_lots cX5_lots 12 (some .int)) { frames := 4, cells := 0, slots := 0, locals := 94 } 0 0 [.ref (ad 0), .int a1, .int a2, .int a3] (wX ad kc cI tolds hasImage n_heirs n_left n_bitten n_kinds n_figures k_heirs k_left k_bitten k_kinds k_figures t_heirs t_left t_bitten t_kinds t_figures r_gone r_heaps r_fewestCells r_deed c_ways c_fewest c_nextWays c_nextFewest x_length x_letters told refusals ends) (fun _ => (wX ad kc cI tolds hasImage n_heirs n_left n_bitten n_kinds n_figures k_heirs k_left k_bitten k_kinds k_figures t_heirs t_left t_bitten t_kinds t_figures o.2.1 o.2.2.1 o.2.2.2.1 o.2.2.2.2.1 c_ways c_fewest c_nextWays c_nextFewest x_length x_letters told o.2.2.2.2.2 ends)) (some (.int o.1)) := by
  refine Ct.of (cc := cX5_lots) (nL := 12) (ret := (some .int)) (own := RX5) (by decide) (Nat.le_of_ble_eq_true rfl) rfl ?_
  intro p e s m args below meth c A C hr hlk hnm
  refine s_lv (lv1 := [(0, .ref (ad 0)), (1, .int a1), (2, .int a2), (3, .int a3)]) [0, 1, 2, 3] rfl ?_
  unfold f_X5_lots at hf
  refine s_iload_n C 1 1 rfl dX5_lots_0 rfl ?_
  refine s_iconst C 2 rfl dX5_lots_1 ic_1 ?_
  refine s_icmp_ge C 12 5 rfl dX5_lots_2 rfl (fun hc71 => ?_) (fun hc71 => ?_)
  · replace hf := ite_t hc71 hf
    refine s_iload_n C 13 1 rfl dX5_lots_12 rfl ?_
    refine s_bipush C 15 rfl dX5_lots_13 bp_20 ?_
    refine s_icmp_le C 25 18 rfl dX5_lots_15 rfl (fun hc68 => ?_) (fun hc68 => ?_)
    · replace hf := ite_t hc68 hf
      refine s_iload_n C 26 3 rfl dX5_lots_25 rfl ?_
      obtain ⟨r1, q2, hf⟩ := bn_s hf
      refine s_callS0 (host := "") (rest := []) C 29 (c_X5_isTwofold l D cI adK adV a3 r1 q2) (gS uu601 uu603 uu1 uu604) hd_X5_isTwofold rfl ⟨rfl, rfl⟩ ⟨Nat.le_of_ble_eq_true rfl, Nat.le_of_ble_eq_true rfl⟩ ⟨Nat.le_of_ble_eq_true rfl, Nat.le_of_ble_eq_true rfl⟩ rfl (Nat.le_of_ble_eq_true rfl) rfl dX5_lots_26 ?_
      refine s_if_ne C 39 32 rfl dX5_lots_29 rfl (fun hc65 => ?_) (fun hc65 => ?_)
      · replace hf := ite_f hc65 hf
        refine s_iload_n C 40 2 rfl dX5_lots_39 rfl ?_
        refine s_istore (lv1 := [(4, .int a2), (0, .ref (ad 0)), (1, .int a1), (2, .int a2), (3, .int a3)]) C 42 4 rfl dX5_lots_40 (Nat.le_of_ble_eq_true rfl) rfl ?_
        refine s_iconst C 43 rfl dX5_lots_42 ic_0 ?_
        refine s_istore (lv1 := [(5, .int (0 : Int32)), (4, .int a2), (0, .ref (ad 0)), (1, .int a1), (2, .int a2), (3, .int a3)]) C 45 5 rfl dX5_lots_43 (Nat.le_of_ble_eq_true rfl) rfl ?_
        refine s_iconst C 46 rfl dX5_lots_45 ic_0 ?_
        refine s_istore (lv1 := [(6, .int (0 : Int32)), (5, .int (0 : Int32)), (4, .int a2), (0, .ref (ad 0)), (1, .int a1), (2, .int a2), (3, .int a3)]) C 48 6 rfl dX5_lots_46 (Nat.le_of_ble_eq_true rfl) rfl ?_
        refine s_iconst C 49 rfl dX5_lots_48 ic_0 ?_
        refine s_istore (lv1 := [(7, .int (0 : Int32)), (6, .int (0 : Int32)), (5, .int (0 : Int32)), (4, .int a2), (0, .ref (ad 0)), (1, .int a1), (2, .int a2), (3, .int a3)]) C 51 7 rfl dX5_lots_49 (Nat.le_of_ble_eq_true rfl) rfl ?_
        refine s_lv (lv1 := [(0, .ref (ad 0)), (1, .int a1), (3, .int a3), (4, .int a2), (5, .int (0 : Int32)), (6, .int (0 : Int32)), (7, .int (0 : Int32))]) [4, 5, 7, 3, 2, 1, 0] rfl ?_
        refine s_kont (γ := Int32 × Int32 × Int32 × Int32 × Int32 × Int32) (o := o) (fun KQ => f_X5_lots_51 a1 n_heirs n_left n_kinds n_figures KQ 1000 a2 (0 : Int32) (0 : Int32) (0 : Int32) r_gone r_heaps r_fewestCells r_deed = some o) 156 (fun e37 => [(3, .int a3), (5, .int e37.1), (6, .int e37.2.1)]) (fun e37 => []) (fun e37 => (wX ad kc cI tolds hasImage n_heirs n_left n_bitten n_kinds n_figures k_heirs k_left k_bitten k_kinds k_figures t_heirs t_left t_bitten t_kinds t_figures e37.2.2.1 e37.2.2.2.1 e37.2.2.2.2.1 e37.2.2.2.2.2 c_ways c_fewest c_nextWays c_nextFewest x_length x_letters told refusals ends)) hf (fun e37 hf => ?_) (fun k36 hk36 hf => ?_)
        · refine s_iload_n C 157 0 rfl dX5_lots_156 rfl ?_
          refine s_if_ne C 165 160 rfl dX5_lots_157 rfl (fun hc38 => ?_) (fun hc38 => ?_)
          · replace hf := ite_f hc38 hf
            refine s_iload C 167 2 rfl dX5_lots_165 rfl ?_
            obtain rfl := Option.some.inj hf
            exact s_iret C kc hr hlk rfl rfl dX5_lots_167
          · replace hf := ite_t hc38 hf
            refine s_iload C 162 1 rfl dX5_lots_160 rfl ?_
            refine s_goto C 167 dX5_lots_162 rfl ?_
            obtain rfl := Option.some.inj hf
            exact s_iret C kc hr hlk rfl rfl dX5_lots_167
        · skip
          refine s_loop (α := Int32 × Int32 × Int32 × Int32 × Int32 × Int32 × Int32 × Int32) (fun n v39 => f_X5_lots_51 a1 n_heirs n_left n_kinds n_figures k36 n v39.1 v39.2.1 v39.2.2.1 v39.2.2.2.1 v39.2.2.2.2.1 v39.2.2.2.2.2.1 v39.2.2.2.2.2.2.1 v39.2.2.2.2.2.2.2) 51 (fun v39 => [(0, .ref (ad 0)), (1, .int a1), (3, .int a3), (4, .int v39.1), (5, .int v39.2.1), (6, .int v39.2.2.1), (7, .int v39.2.2.2.1)]) (fun v39 => (wX ad kc cI tolds hasImage n_heirs n_left n_bitten n_kinds n_figures k_heirs k_left k_bitten k_kinds k_figures t_heirs t_left t_bitten t_kinds t_figures v39.2.2.2.2.1 v39.2.2.2.2.2.1 v39.2.2.2.2.2.2.1 v39.2.2.2.2.2.2.2 c_ways c_fewest c_nextWays c_nextFewest x_length x_letters told refusals ends)) 1000 (a2, (0 : Int32), (0 : Int32), (0 : Int32), r_gone, r_heaps, r_fewestCells, r_deed) hf (fun v39 hf => by simp only [f_X5_lots_51] at hf; exact absurd hf (by simp)) (fun n ih40 v39 hf => ?_)
          replace hf := (f_X5_lots_51_s _ _ _ _ _ _ _ _ _ _ _ _ _ _ _).symm.trans hf
          refine s_iload C 53 6 rfl dX5_lots_51 rfl ?_
          refine s_iload_n C 54 1 rfl dX5_lots_53 rfl ?_
          refine s_icmp_ge C 156 57 rfl dX5_lots_54 rfl (fun hc62 => ?_) (fun hc62 => ?_)
          · replace hf := ite_t hc62 hf
            exact s_lv [2, 4, 5] rfl (hk36 ((v39.2.1, v39.2.2.1, v39.2.2.2.2.1, v39.2.2.2.2.2.1, v39.2.2.2.2.2.2.1, v39.2.2.2.2.2.2.2) : Int32 × Int32 × Int32 × Int32 × Int32 × Int32) hf)
          · replace hf := ite_f hc62 hf
            refine s_aload_n C 58 0 rfl dX5_lots_57 rfl ?_
            refine s_get (C1 := RX5) (T := TX5) (N := 11) (ci := 4) C 61 0 0 uX5 rfl rfl (Nat.le_of_ble_eq_true rfl) uu130 rfl rfl rfl dX5_lots_58 ?_
            refine s_get (C1 := RX0) (T := TX0) (N := 5) (ci := 0) C 64 1 3 uX0 rfl rfl (Nat.le_of_ble_eq_true rfl) uu53 rfl rfl rfl dX5_lots_61 ?_
            refine s_istore (lv1 := [(8, .int n_left), (0, .ref (ad 0)), (1, .int a1), (3, .int a3), (4, .int v39.1), (5, .int v39.2.1), (6, .int v39.2.2.1), (7, .int v39.2.2.2.1)]) C 66 8 rfl dX5_lots_64 (Nat.le_of_ble_eq_true rfl) rfl ?_
            refine s_iconst C 67 rfl dX5_lots_66 ic_0 ?_
            refine s_istore (lv1 := [(9, .int (0 : Int32)), (8, .int n_left), (0, .ref (ad 0)), (1, .int a1), (3, .int a3), (4, .int v39.1), (5, .int v39.2.1), (6, .int v39.2.2.1), (7, .int v39.2.2.2.1)]) C 69 9 rfl dX5_lots_67 (Nat.le_of_ble_eq_true rfl) rfl ?_
            refine s_lv (lv1 := [(0, .ref (ad 0)), (1, .int a1), (3, .int a3), (4, .int v39.1), (5, .int v39.2.1), (6, .int v39.2.2.1), (7, .int v39.2.2.2.1), (8, .int n_left), (9, .int (0 : Int32))]) [2, 3, 4, 5, 6, 7, 8, 1, 0] rfl ?_
            refine s_kont (γ := Int32 × Int32) (o := o) (fun KQ => f_X5_lots_69 KQ 1000 v39.1 n_left (0 : Int32) = some o) 126 (fun e42 => [(0, .ref (ad 0)), (1, .int a1), (3, .int a3), (4, .int e42.1), (5, .int v39.2.1), (6, .int v39.2.2.1), (7, .int v39.2.2.2.1), (8, .int e42.2)]) (fun e42 => []) (fun e42 => (wX ad kc cI tolds hasImage n_heirs n_left n_bitten n_kinds n_figures k_heirs k_left k_bitten k_kinds k_figures t_heirs t_left t_bitten t_kinds t_figures v39.2.2.2.2.1 v39.2.2.2.2.2.1 v39.2.2.2.2.2.2.1 v39.2.2.2.2.2.2.2 c_ways c_fewest c_nextWays c_nextFewest x_length x_letters told refusals ends)) hf (fun e42 hf => ?_) (fun k41 hk41 hf => ?_)
            · refine s_iload C 128 4 rfl dX5_lots_126 rfl ?_
              refine s_aload_n C 129 0 rfl dX5_lots_128 rfl ?_
              refine s_iload C 131 7 rfl dX5_lots_129 rfl ?_
              obtain ⟨r43, q44, hf⟩ := bn_s hf
              refine s_callW (T := TX5) (N := 11) (ci := 4) (q0 := 0) (rest := [.int v39.2.1]) C 134 (c_X5_sharesTogether l D cI adK adV ad kc tolds hasImage n_heirs n_left n_bitten n_kinds n_figures k_heirs k_left k_bitten k_kinds k_figures t_heirs t_left t_bitten t_kinds t_figures v39.2.2.2.2.1 v39.2.2.2.2.2.1 v39.2.2.2.2.2.2.1 v39.2.2.2.2.2.2.2 c_ways c_fewest c_nextWays c_nextFewest x_length x_letters told refusals ends e42.2 r43 q44) (gV uu606 uu608 uu1551 uu1 uu609) hd_X5_sharesTogether rfl ⟨rfl, rfl⟩ ⟨Nat.le_of_ble_eq_true rfl, Nat.le_of_ble_eq_true rfl⟩ ⟨Nat.le_of_ble_eq_true rfl, Nat.le_of_ble_eq_true rfl⟩ rfl rfl rfl (Nat.le_of_ble_eq_true rfl) rfl dX5_lots_131 (fun _ => ?_)
              refine s_iadd C 135 rfl dX5_lots_134 ?_
              refine s_istore (lv1 := [(5, .int (v39.2.1 + r43.1)), (0, .ref (ad 0)), (1, .int a1), (3, .int a3), (4, .int e42.1), (6, .int v39.2.2.1), (7, .int v39.2.2.2.1), (8, .int e42.2)]) C 137 5 rfl dX5_lots_135 (Nat.le_of_ble_eq_true rfl) rfl ?_
              refine s_aload_n C 138 1 rfl dX5_lots_137 rfl ?_
              refine s_get (C1 := RX5) (T := TX5) (N := 11) (ci := 4) C 141 0 3 uX5 rfl rfl (Nat.le_of_ble_eq_true rfl) uu136 rfl rfl rfl dX5_lots_138 ?_
              obtain ⟨r45, q46, hf⟩ := bn_s hf
              refine s_callV (T := TX3) (N := 4) (ci := 2) (q0 := 10) (rest := []) (wr := [((ad 0), .inr (4, [.ref (ad 1), .ref (ad 4), .ref (ad 7), .ref (ad 10), .ref (ad 11), .ref (ad 12), .ref (ad 14), .ref (ad 15), .ref (ad 16), .int tolds, .int hasImage])), ((ad 1), .inr (0, [.ref (ad 2), .ref (ad 3), .int n_heirs, .int n_left, .int n_bitten])), ((ad 2), .inl (cI, 5, .inl n_kinds)), ((ad 3), .inl (cI, 5, .inl n_figures)), ((ad 4), .inr (0, [.ref (ad 5), .ref (ad 6), .int k_heirs, .int k_left, .int k_bitten])), ((ad 5), .inl (cI, 5, .inl k_kinds)), ((ad 6), .inl (cI, 5, .inl k_figures)), ((ad 7), .inr (0, [.ref (ad 8), .ref (ad 9), .int t_heirs, .int t_left, .int t_bitten])), ((ad 8), .inl (cI, 5, .inl t_kinds)), ((ad 9), .inl (cI, 5, .inl t_figures)), ((ad 11), .inr (1, [.ref (kc 0), .ref (kc 1), .ref (kc 2), .ref (kc 3)])), ((kc 0), .inl (cI, 64, .inl c_ways)), ((kc 1), .inl (cI, 64, .inl c_fewest)), ((kc 2), .inl (cI, 64, .inl c_nextWays)), ((kc 3), .inl (cI, 64, .inl c_nextFewest)), ((ad 12), .inr (3, [.ref (ad 13), .int x_length])), ((ad 13), .inl (cI, 96, .inl x_letters)), ((ad 14), .inl (cI, 16, .inl told)), ((ad 15), .inl (cI, 7, .inl refusals)), ((ad 16), .inl (cI, 4, .inl ends))]) (ws2 := fun _ => (wX ad kc cI tolds hasImage n_heirs n_left n_bitten n_kinds n_figures k_heirs k_left k_bitten k_kinds k_figures t_heirs t_left t_bitten t_kinds t_figures r43.2.1 r43.2.2.1 r43.2.2.2.1 r43.2.2.2.2 c_ways c_fewest c_nextWays c_nextFewest x_length x_letters told refusals ends)) C 144 (c_X3_isInChancery l D cI adK adV (ad 10) r43.2.1 r43.2.2.1 r43.2.2.2.1 r43.2.2.2.2 r45 q46) (gV uu622 uu546 uu547 uu3 uu548) hd_X3_isInChancery rfl ⟨rfl, rfl⟩ ⟨Nat.le_of_ble_eq_true rfl, Nat.le_of_ble_eq_true rfl⟩ ⟨Nat.le_of_ble_eq_true rfl, Nat.le_of_ble_eq_true rfl⟩ rfl rfl rfl (Nat.le_of_ble_eq_true rfl) [10] [0, 1, 2, 3, 4, 5, 6, 7, 8, 9, 11, 12, 13, 14, 15, 16, 17, 18, 19, 20] [0, 1, 2, 3, 4, 5, 6, 7, 8, 9, 20, 10, 11, 12, 13, 14, 15, 16, 17, 18, 19] rfl rfl rfl rfl (by decide) rfl (fun _ => rfl) (fun _ => rfl) rfl dX5_lots_141 (fun _ => ?_)
              refine s_jn (α := Int32) 150 (fun j47 => [(0, .ref (ad 0)), (1, .int a1), (3, .int a3), (4, .int e42.1), (5, .int (v39.2.1 + r43.1)), (6, .int j47), (7, .int v39.2.2.2.1)]) (fun j47 => []) (fun j47 => (wX ad kc cI tolds hasImage n_heirs n_left n_bitten n_kinds n_figures k_heirs k_left k_bitten k_kinds k_figures t_heirs t_left t_bitten t_kinds t_figures r43.2.1 r43.2.2.1 r43.2.2.2.1 r43.2.2.2.2 c_ways c_fewest c_nextWays c_nextFewest x_length x_letters told refusals ends)) hf (fun j47 hf => ?_) (fun hj hf => ?_)
              · refine s_iinc (lv1 := [(7, .int (v39.2.2.2.1 + (1 : Int32))), (0, .ref (ad 0)), (1, .int a1), (3, .int a3), (4, .int e42.1), (5, .int (v39.2.1 + r43.1)), (6, .int j47)]) C 153 7 6 rfl dX5_lots_150 rfl ic_1 (Nat.le_of_ble_eq_true rfl) rfl ?_
                refine s_goto C 51 dX5_lots_153 rfl ?_
                exact s_lv [1, 2, 3, 4, 5, 6, 0] rfl (ih40 ((e42.1, v39.2.1 + r43.1, j47, v39.2.2.2.1 + (1 : Int32), r43.2.1, r43.2.2.1, r43.2.2.2.1, r43.2.2.2.2) : Int32 × Int32 × Int32 × Int32 × Int32 × Int32 × Int32 × Int32) hf)
              · refine s_if_eq C 150 147 rfl dX5_lots_144 rfl (fun hc48 => ?_) (fun hc48 => ?_)
                · replace hf := jn_t hc48 hf
                  replace hf := jn_i hf
                  exact s_lv [1, 2, 3, 4, 0, 5, 6] rfl (hj (v39.2.2.1 : Int32) hf)
                · replace hf := jn_f hc48 hf
                  refine s_iinc (lv1 := [(6, .int (v39.2.2.1 + (1 : Int32))), (5, .int (v39.2.1 + r43.1)), (0, .ref (ad 0)), (1, .int a1), (3, .int a3), (4, .int e42.1), (7, .int v39.2.2.2.1), (8, .int e42.2)]) C 150 6 5 rfl dX5_lots_147 rfl ic_1 (Nat.le_of_ble_eq_true rfl) rfl ?_
                  replace hf := jn_i hf
                  exact s_lv [2, 3, 4, 5, 1, 0, 6] rfl (hj (v39.2.2.1 + (1 : Int32) : Int32) hf)
            · skip
              refine s_loop (α := Int32 × Int32 × Int32) (fun n v49 => f_X5_lots_69 k41 n v49.1 v49.2.1 v49.2.2) 69 (fun v49 => [(0, .ref (ad 0)), (1, .int a1), (3, .int a3), (4, .int v49.1), (5, .int v39.2.1), (6, .int v39.2.2.1), (7, .int v39.2.2.2.1), (8, .int v49.2.1), (9, .int v49.2.2)]) (fun v49 => (wX ad kc cI tolds hasImage n_heirs n_left n_bitten n_kinds n_figures k_heirs k_left k_bitten k_kinds k_figures t_heirs t_left t_bitten t_kinds t_figures v39.2.2.2.2.1 v39.2.2.2.2.2.1 v39.2.2.2.2.2.2.1 v39.2.2.2.2.2.2.2 c_ways c_fewest c_nextWays c_nextFewest x_length x_letters told refusals ends)) 1000 (v39.1, n_left, (0 : Int32)) hf (fun v49 hf => by simp only [f_X5_lots_69] at hf; exact absurd hf (by simp)) (fun n ih50 v49 hf => ?_)
              replace hf := (f_X5_lots_69_s _ _ _ _ _).symm.trans hf
              refine s_iload C 71 8 rfl dX5_lots_69 rfl ?_
              refine s_bipush C 73 rfl dX5_lots_71 bp_6 ?_
              refine s_icmp_ge C 126 76 rfl dX5_lots_73 rfl (fun hc61 => ?_) (fun hc61 => ?_)
              · replace hf := ite_t hc61 hf
                exact s_lv [0, 1, 2, 3, 4, 5, 6, 7] rfl (hk41 ((v49.1, v49.2.1) : Int32 × Int32) hf)
              · replace hf := ite_f hc61 hf
                refine s_iload C 78 3 rfl dX5_lots_76 rfl ?_
                obtain ⟨r51, q52, hf⟩ := bn_s hf
                refine s_callS0 (host := "") (rest := []) C 81 (c_X5_nextSeed l D cI adK adV v49.1 r51 q52) (gS uu941 uu943 uu1 uu944) hd_X5_nextSeed rfl ⟨rfl, rfl⟩ ⟨Nat.le_of_ble_eq_true rfl, Nat.le_of_ble_eq_true rfl⟩ ⟨Nat.le_of_ble_eq_true rfl, Nat.le_of_ble_eq_true rfl⟩ rfl (Nat.le_of_ble_eq_true rfl) rfl dX5_lots_78 ?_
                refine s_istore (lv1 := [(10, .int r51), (0, .ref (ad 0)), (1, .int a1), (3, .int a3), (4, .int v49.1), (5, .int v39.2.1), (6, .int v39.2.2.1), (7, .int v39.2.2.2.1), (8, .int v49.2.1), (9, .int v49.2.2)]) C 83 10 rfl dX5_lots_81 (Nat.le_of_ble_eq_true rfl) rfl ?_
                refine s_iload C 85 0 rfl dX5_lots_83 rfl ?_
                obtain ⟨r53, q54, hf⟩ := bn_s hf
                refine s_callS0 (host := "") (rest := []) C 88 (c_X5_nextSeed l D cI adK adV r51 r53 q54) (gS uu941 uu943 uu1 uu944) hd_X5_nextSeed rfl ⟨rfl, rfl⟩ ⟨Nat.le_of_ble_eq_true rfl, Nat.le_of_ble_eq_true rfl⟩ ⟨Nat.le_of_ble_eq_true rfl, Nat.le_of_ble_eq_true rfl⟩ rfl (Nat.le_of_ble_eq_true rfl) rfl dX5_lots_85 ?_
                refine s_istore (lv1 := [(4, .int r53), (10, .int r51), (0, .ref (ad 0)), (1, .int a1), (3, .int a3), (5, .int v39.2.1), (6, .int v39.2.2.1), (7, .int v39.2.2.2.1), (8, .int v49.2.1), (9, .int v49.2.2)]) C 90 4 rfl dX5_lots_88 (Nat.le_of_ble_eq_true rfl) rfl ?_
                refine s_iload C 92 1 rfl dX5_lots_90 rfl ?_
                obtain ⟨r55, q56, hf⟩ := bn_s hf
                refine s_callS0 (host := "") (rest := []) C 95 (c_X5_drawnFrom l D cI adK adV r51 r55 q56) (gS uu950 uu952 uu1 uu953) hd_X5_drawnFrom rfl ⟨rfl, rfl⟩ ⟨Nat.le_of_ble_eq_true rfl, Nat.le_of_ble_eq_true rfl⟩ ⟨Nat.le_of_ble_eq_true rfl, Nat.le_of_ble_eq_true rfl⟩ rfl (Nat.le_of_ble_eq_true rfl) rfl dX5_lots_92 ?_
                refine s_iconst C 96 rfl dX5_lots_95 ic_4 ?_
                refine s_irem C 97 rfl dX5_lots_96 (by decide) ?_
                refine s_bipush C 99 rfl dX5_lots_97 bp_25 ?_
                refine s_imul C 100 rfl dX5_lots_99 ?_
                refine s_iload C 102 0 rfl dX5_lots_100 rfl ?_
                obtain ⟨r57, q58, hf⟩ := bn_s hf
                refine s_callS0 (host := "") (rest := [.int ((jrem r55 (4 : Int32)) * (25 : Int32))]) C 105 (c_X5_drawnFrom l D cI adK adV r53 r57 q58) (gS uu950 uu952 uu1 uu953) hd_X5_drawnFrom rfl ⟨rfl, rfl⟩ ⟨Nat.le_of_ble_eq_true rfl, Nat.le_of_ble_eq_true rfl⟩ ⟨Nat.le_of_ble_eq_true rfl, Nat.le_of_ble_eq_true rfl⟩ rfl (Nat.le_of_ble_eq_true rfl) rfl dX5_lots_102 ?_
                refine s_bipush C 107 rfl dX5_lots_105 bp_25 ?_
                refine s_irem C 108 rfl dX5_lots_107 (by decide) ?_
                refine s_iadd C 109 rfl dX5_lots_108 ?_
                refine s_istore (lv1 := [(11, .int (((jrem r55 (4 : Int32)) * (25 : Int32)) + (jrem r57 (25 : Int32)))), (4, .int r53), (10, .int r51), (0, .ref (ad 0)), (1, .int a1), (3, .int a3), (5, .int v39.2.1), (6, .int v39.2.2.1), (7, .int v39.2.2.2.1), (8, .int v49.2.1), (9, .int v49.2.2)]) C 111 11 rfl dX5_lots_109 (Nat.le_of_ble_eq_true rfl) rfl ?_
                refine s_iload C 113 0 rfl dX5_lots_111 rfl ?_
                refine s_iload C 115 9 rfl dX5_lots_113 rfl ?_
                obtain ⟨r59, q60, hf⟩ := bn_s hf
                refine s_callS0 (host := "") (rest := []) C 118 (c_X2_behind l D cI adK adV (((jrem r55 (4 : Int32)) * (25 : Int32)) + (jrem r57 (25 : Int32))) v49.2.1 r59 q60) (gS uu657 uu659 uu14 uu660) hd_X2_behind rfl ⟨rfl, rfl⟩ ⟨Nat.le_of_ble_eq_true rfl, Nat.le_of_ble_eq_true rfl⟩ ⟨Nat.le_of_ble_eq_true rfl, Nat.le_of_ble_eq_true rfl⟩ rfl (Nat.le_of_ble_eq_true rfl) rfl dX5_lots_115 ?_
                refine s_istore (lv1 := [(8, .int r59), (11, .int (((jrem r55 (4 : Int32)) * (25 : Int32)) + (jrem r57 (25 : Int32)))), (4, .int r53), (10, .int r51), (0, .ref (ad 0)), (1, .int a1), (3, .int a3), (5, .int v39.2.1), (6, .int v39.2.2.1), (7, .int v39.2.2.2.1), (9, .int v49.2.2)]) C 120 8 rfl dX5_lots_118 (Nat.le_of_ble_eq_true rfl) rfl ?_
                refine s_iinc (lv1 := [(9, .int (v49.2.2 + (1 : Int32))), (8, .int r59), (11, .int (((jrem r55 (4 : Int32)) * (25 : Int32)) + (jrem r57 (25 : Int32)))), (4, .int r53), (10, .int r51), (0, .ref (ad 0)), (1, .int a1), (3, .int a3), (5, .int v39.2.1), (6, .int v39.2.2.1), (7, .int v39.2.2.2.1)]) C 123 9 10 rfl dX5_lots_120 rfl ic_1 (Nat.le_of_ble_eq_true rfl) rfl ?_
                refine s_goto C 69 dX5_lots_123 rfl ?_
                exact s_lv [5, 6, 7, 3, 8, 9, 10, 1, 0] rfl (ih50 ((r53, r59, v49.2.2 + (1 : Int32)) : Int32 × Int32 × Int32) hf)
      · replace hf := ite_t hc65 hf
        refine s_aload_n C 33 0 rfl dX5_lots_32 rfl ?_
        refine s_bipush C 35 rfl dX5_lots_33 bp_m2 ?_
        obtain ⟨r63, q64, hf⟩ := bn_s hf
        refine s_callW (T := TX5) (N := 11) (ci := 4) (q0 := 0) (rest := []) C 38 (c_X5_refused l D cI adK adV ad kc tolds hasImage n_heirs n_left n_bitten n_kinds n_figures k_heirs k_left k_bitten k_kinds k_figures t_heirs t_left t_bitten t_kinds t_figures r_gone r_heaps r_fewestCells r_deed c_ways c_fewest c_nextWays c_nextFewest x_length x_letters told refusals ends (-2 : Int32) r63 q64) (gV uu169 uu171 uu1541 uu1 uu172) hd_X5_refused rfl ⟨rfl, rfl⟩ ⟨Nat.le_of_ble_eq_true rfl, Nat.le_of_ble_eq_true rfl⟩ ⟨Nat.le_of_ble_eq_true rfl, Nat.le_of_ble_eq_true rfl⟩ rfl rfl rfl (Nat.le_of_ble_eq_true rfl) rfl dX5_lots_35 (fun _ => ?_)
        obtain rfl := Option.some.inj hf
        exact s_iret C kc hr hlk rfl rfl dX5_lots_38
    · replace hf := ite_f hc68 hf
      refine s_aload_n C 19 0 rfl dX5_lots_18 rfl ?_
      refine s_bipush C 21 rfl dX5_lots_19 bp_m6 ?_
      obtain ⟨r66, q67, hf⟩ := bn_s hf
      refine s_callW (T := TX5) (N := 11) (ci := 4) (q0 := 0) (rest := []) C 24 (c_X5_refused l D cI adK adV ad kc tolds hasImage n_heirs n_left n_bitten n_kinds n_figures k_heirs k_left k_bitten k_kinds k_figures t_heirs t_left t_bitten t_kinds t_figures r_gone r_heaps r_fewestCells r_deed c_ways c_fewest c_nextWays c_nextFewest x_length x_letters told refusals ends (-6 : Int32) r66 q67) (gV uu169 uu171 uu1541 uu1 uu172) hd_X5_refused rfl ⟨rfl, rfl⟩ ⟨Nat.le_of_ble_eq_true rfl, Nat.le_of_ble_eq_true rfl⟩ ⟨Nat.le_of_ble_eq_true rfl, Nat.le_of_ble_eq_true rfl⟩ rfl rfl rfl (Nat.le_of_ble_eq_true rfl) rfl dX5_lots_21 (fun _ => ?_)
      obtain rfl := Option.some.inj hf
      exact s_iret C kc hr hlk rfl rfl dX5_lots_24
  · replace hf := ite_f hc71 hf
    refine s_aload_n C 6 0 rfl dX5_lots_5 rfl ?_
    refine s_bipush C 8 rfl dX5_lots_6 bp_m4 ?_
    obtain ⟨r69, q70, hf⟩ := bn_s hf
    refine s_callW (T := TX5) (N := 11) (ci := 4) (q0 := 0) (rest := []) C 11 (c_X5_refused l D cI adK adV ad kc tolds hasImage n_heirs n_left n_bitten n_kinds n_figures k_heirs k_left k_bitten k_kinds k_figures t_heirs t_left t_bitten t_kinds t_figures r_gone r_heaps r_fewestCells r_deed c_ways c_fewest c_nextWays c_nextFewest x_length x_letters told refusals ends (-4 : Int32) r69 q70) (gV uu169 uu171 uu1541 uu1 uu172) hd_X5_refused rfl ⟨rfl, rfl⟩ ⟨Nat.le_of_ble_eq_true rfl, Nat.le_of_ble_eq_true rfl⟩ ⟨Nat.le_of_ble_eq_true rfl, Nat.le_of_ble_eq_true rfl⟩ rfl rfl rfl (Nat.le_of_ble_eq_true rfl) rfl dX5_lots_8 (fun _ => ?_)
    obtain rfl := Option.some.inj hf
    exact s_iret C kc hr hlk rfl rfl dX5_lots_11

theorem sw_out_X5_count_1 {x : Int32} (h0 : ¬ x = (0 : Int32)) (h1 : ¬ x = (1 : Int32)) (h2 : ¬ x = (2 : Int32)) (h3 : ¬ x = (3 : Int32)) (h4 : ¬ x = (4 : Int32)) (h5 : ¬ x = (5 : Int32)) (h6 : ¬ x = (6 : Int32)) (h7 : ¬ x = (7 : Int32)) : x.toInt < 0 ∨ 7 < x.toInt := by
  have e0 := ne_toInt h0
  rw [show ((0 : Int32) : Int32).toInt = 0 from by decide] at e0
  have e1 := ne_toInt h1
  rw [show ((1 : Int32) : Int32).toInt = 1 from by decide] at e1
  have e2 := ne_toInt h2
  rw [show ((2 : Int32) : Int32).toInt = 2 from by decide] at e2
  have e3 := ne_toInt h3
  rw [show ((3 : Int32) : Int32).toInt = 3 from by decide] at e3
  have e4 := ne_toInt h4
  rw [show ((4 : Int32) : Int32).toInt = 4 from by decide] at e4
  have e5 := ne_toInt h5
  rw [show ((5 : Int32) : Int32).toInt = 5 from by decide] at e5
  have e6 := ne_toInt h6
  rw [show ((6 : Int32) : Int32).toInt = 6 from by decide] at e6
  have e7 := ne_toInt h7
  rw [show ((7 : Int32) : Int32).toInt = 7 from by decide] at e7
  omega
theorem hd_X5_count : yX5_count.cls = RX5 ∧ yX5_count.cls ≠ "java/lang/invoke/MethodHandle" ∧ yX5_count.cls ≠ "java/lang/invoke/VarHandle" ∧ (parseMethodDescriptor yX5_count.desc).map (fun d => d.parameters.length) = some 1 := by decide +kernel
set_option maxHeartbeats 4000000 in
set_option maxRecDepth 100000 in
theorem c_X5_count (l : Launch) (D : va_G) (cI : ClassId) (adK adV : Nat → Nat) (ad : Nat → Nat) (kc : Nat → Nat) (tolds : Int32) (hasImage : Int32) (n_heirs : Int32) (n_left : Int32) (n_bitten : Int32) (n_kinds : (Nat → Int32)) (n_figures : (Nat → Int32)) (k_heirs : Int32) (k_left : Int32) (k_bitten : Int32) (k_kinds : (Nat → Int32)) (k_figures : (Nat → Int32)) (t_heirs : Int32) (t_left : Int32) (t_bitten : Int32) (t_kinds : (Nat → Int32)) (t_figures : (Nat → Int32)) (r_gone : Int32) (r_heaps : Int32) (r_fewestCells : Int32) (r_deed : Int32) (c_ways : (Nat → Int32)) (c_fewest : (Nat → Int32)) (c_nextWays : (Nat → Int32)) (c_nextFewest : (Nat → Int32)) (x_length : Int32) (x_letters : (Nat → Int32)) (told : (Nat → Int32)) (refusals : (Nat → Int32)) (ends : (Nat → Int32)) (a1 : Int32) (o : Int32 × Int32 × Int32 × Int32 × Int32) (hf : f_X5_count tolds n_heirs n_left n_bitten n_kinds n_figures r_gone r_heaps r_fewestCells r_deed x_length refusals a1 = some o) : Ct l D cI adK adV yX5_count (wy yX5_count cX5_count 2 (some .int)) { frames := 4, cells := 0, slots := 0, locals := 94 } 0 0 [.ref (ad 0), .int a1] (wX ad kc cI tolds hasImage n_heirs n_left n_bitten n_kinds n_figures k_heirs k_left k_bitten k_kinds k_figures t_heirs t_left t_bitten t_kinds t_figures r_gone r_heaps r_fewestCells r_deed c_ways c_fewest c_nextWays c_nextFewest x_length x_letters told refusals ends) (fun _ => (wX ad kc cI tolds hasImage n_heirs n_left n_bitten n_kinds n_figures k_heirs k_left k_bitten k_kinds k_figures t_heirs t_left t_bitten t_kinds t_figures o.2.1 o.2.2.1 o.2.2.2.1 o.2.2.2.2 c_ways c_fewest c_nextWays c_nextFewest x_length x_letters told refusals ends)) (some (.int o.1)) := by
  refine Ct.of (cc := cX5_count) (nL := 2) (ret := (some .int)) (own := RX5) (by decide) (Nat.le_of_ble_eq_true rfl) rfl ?_
  intro p e s m args below meth c A C hr hlk hnm
  refine s_lv (lv1 := [(0, .ref (ad 0)), (1, .int a1)]) [0, 1] rfl ?_
  unfold f_X5_count at hf
  refine s_iload_n C 1 1 rfl dX5_count_0 rfl ?_
  by_cases hc1 : a1 = (0 : Int32)
  · replace hf := ite_t hc1 hf
    refine s_tableIn (off := 47) C 48 dX5_count_1 (by rw [hc1]; decide) (by rw [hc1]; decide) (by rw [hc1]; rfl) rfl ?_
    refine s_aload_n C 49 0 rfl dX5_count_48 rfl ?_
    refine s_get (C1 := RX5) (T := TX5) (N := 11) (ci := 4) C 52 0 0 uX5 rfl rfl (Nat.le_of_ble_eq_true rfl) uu130 rfl rfl rfl dX5_count_49 ?_
    refine s_get (C1 := RX0) (T := TX0) (N := 5) (ci := 0) C 55 1 2 uX0 rfl rfl (Nat.le_of_ble_eq_true rfl) uu49 rfl rfl rfl dX5_count_52 ?_
    obtain rfl := Option.some.inj hf
    exact s_iret C kc hr hlk rfl rfl dX5_count_55
  · replace hf := ite_f hc1 hf
    by_cases hc2 : a1 = (1 : Int32)
    · replace hf := ite_t hc2 hf
      refine s_tableIn (off := 55) C 56 dX5_count_1 (by rw [hc2]; decide) (by rw [hc2]; decide) (by rw [hc2]; rfl) rfl ?_
      refine s_aload_n C 57 0 rfl dX5_count_56 rfl ?_
      refine s_get (C1 := RX5) (T := TX5) (N := 11) (ci := 4) C 60 0 0 uX5 rfl rfl (Nat.le_of_ble_eq_true rfl) uu130 rfl rfl rfl dX5_count_57 ?_
      refine s_get (C1 := RX0) (T := TX0) (N := 5) (ci := 0) C 63 1 4 uX0 rfl rfl (Nat.le_of_ble_eq_true rfl) uu57 rfl rfl rfl dX5_count_60 ?_
      obtain rfl := Option.some.inj hf
      exact s_iret C kc hr hlk rfl rfl dX5_count_63
    · replace hf := ite_f hc2 hf
      by_cases hc3 : a1 = (2 : Int32)
      · replace hf := ite_t hc3 hf
        refine s_tableIn (off := 63) C 64 dX5_count_1 (by rw [hc3]; decide) (by rw [hc3]; decide) (by rw [hc3]; rfl) rfl ?_
        refine s_aload_n C 65 0 rfl dX5_count_64 rfl ?_
        refine s_get (C1 := RX5) (T := TX5) (N := 11) (ci := 4) C 68 0 0 uX5 rfl rfl (Nat.le_of_ble_eq_true rfl) uu130 rfl rfl rfl dX5_count_65 ?_
        refine s_get (C1 := RX0) (T := TX0) (N := 5) (ci := 0) C 71 1 3 uX0 rfl rfl (Nat.le_of_ble_eq_true rfl) uu53 rfl rfl rfl dX5_count_68 ?_
        obtain rfl := Option.some.inj hf
        exact s_iret C kc hr hlk rfl rfl dX5_count_71
      · replace hf := ite_f hc3 hf
        by_cases hc6 : a1 = (3 : Int32)
        · replace hf := ite_t hc6 hf
          refine s_tableIn (off := 71) C 72 dX5_count_1 (by rw [hc6]; decide) (by rw [hc6]; decide) (by rw [hc6]; rfl) rfl ?_
          refine s_aload_n C 73 0 rfl dX5_count_72 rfl ?_
          refine s_get (C1 := RX5) (T := TX5) (N := 11) (ci := 4) C 76 0 0 uX5 rfl rfl (Nat.le_of_ble_eq_true rfl) uu130 rfl rfl rfl dX5_count_73 ?_
          refine s_get (C1 := RX0) (T := TX0) (N := 5) (ci := 0) C 79 1 3 uX0 rfl rfl (Nat.le_of_ble_eq_true rfl) uu53 rfl rfl rfl dX5_count_76 ?_
          obtain ⟨r4, q5, hf⟩ := bn_s hf
          refine s_callS0 (host := "") (rest := []) C 82 (c_J6_bitCount_0f7a4 l D cI adK adV n_left r4 q5) (gS uu487 uu489 uu15 uu490) hd_J6_bitCount_0f7a4 rfl ⟨rfl, rfl⟩ ⟨Nat.le_of_ble_eq_true rfl, Nat.le_of_ble_eq_true rfl⟩ ⟨Nat.le_of_ble_eq_true rfl, Nat.le_of_ble_eq_true rfl⟩ rfl (Nat.le_of_ble_eq_true rfl) rfl dX5_count_79 ?_
          obtain rfl := Option.some.inj hf
          exact s_iret C kc hr hlk rfl rfl dX5_count_82
        · replace hf := ite_f hc6 hf
          by_cases hc9 : a1 = (4 : Int32)
          · replace hf := ite_t hc9 hf
            refine s_tableIn (off := 82) C 83 dX5_count_1 (by rw [hc9]; decide) (by rw [hc9]; decide) (by rw [hc9]; rfl) rfl ?_
            refine s_aload_n C 84 0 rfl dX5_count_83 rfl ?_
            refine s_aload_n C 85 0 rfl dX5_count_84 rfl ?_
            refine s_get (C1 := RX5) (T := TX5) (N := 11) (ci := 4) C 88 0 0 uX5 rfl rfl (Nat.le_of_ble_eq_true rfl) uu130 rfl rfl rfl dX5_count_85 ?_
            refine s_get (C1 := RX0) (T := TX0) (N := 5) (ci := 0) C 91 1 3 uX0 rfl rfl (Nat.le_of_ble_eq_true rfl) uu53 rfl rfl rfl dX5_count_88 ?_
            obtain ⟨r7, q8, hf⟩ := bn_s hf
            refine s_callW (T := TX5) (N := 11) (ci := 4) (q0 := 0) (rest := []) C 94 (c_X5_sharesTogether l D cI adK adV ad kc tolds hasImage n_heirs n_left n_bitten n_kinds n_figures k_heirs k_left k_bitten k_kinds k_figures t_heirs t_left t_bitten t_kinds t_figures r_gone r_heaps r_fewestCells r_deed c_ways c_fewest c_nextWays c_nextFewest x_length x_letters told refusals ends n_left r7 q8) (gV uu606 uu608 uu1551 uu1 uu609) hd_X5_sharesTogether rfl ⟨rfl, rfl⟩ ⟨Nat.le_of_ble_eq_true rfl, Nat.le_of_ble_eq_true rfl⟩ ⟨Nat.le_of_ble_eq_true rfl, Nat.le_of_ble_eq_true rfl⟩ rfl rfl rfl (Nat.le_of_ble_eq_true rfl) rfl dX5_count_91 (fun _ => ?_)
            obtain rfl := Option.some.inj hf
            exact s_iret C kc hr hlk rfl rfl dX5_count_94
          · replace hf := ite_f hc9 hf
            by_cases hc13 : a1 = (5 : Int32)
            · replace hf := ite_t hc13 hf
              refine s_tableIn (off := 94) C 95 dX5_count_1 (by rw [hc13]; decide) (by rw [hc13]; decide) (by rw [hc13]; rfl) rfl ?_
              refine s_aload_n C 96 0 rfl dX5_count_95 rfl ?_
              refine s_aload_n C 97 0 rfl dX5_count_96 rfl ?_
              refine s_get (C1 := RX5) (T := TX5) (N := 11) (ci := 4) C 100 0 0 uX5 rfl rfl (Nat.le_of_ble_eq_true rfl) uu130 rfl rfl rfl dX5_count_97 ?_
              refine s_get (C1 := RX0) (T := TX0) (N := 5) (ci := 0) C 103 1 3 uX0 rfl rfl (Nat.le_of_ble_eq_true rfl) uu53 rfl rfl rfl dX5_count_100 ?_
              obtain ⟨r10, q11, hf⟩ := bn_s hf
              refine s_callW (T := TX5) (N := 11) (ci := 4) (q0 := 0) (rest := []) C 106 (c_X5_isSettled l D cI adK adV ad kc tolds hasImage n_heirs n_left n_bitten n_kinds n_figures k_heirs k_left k_bitten k_kinds k_figures t_heirs t_left t_bitten t_kinds t_figures r_gone r_heaps r_fewestCells r_deed c_ways c_fewest c_nextWays c_nextFewest x_length x_letters told refusals ends n_left r10 q11) (gV uu730 uu732 uu1557 uu1 uu733) hd_X5_isSettled rfl ⟨rfl, rfl⟩ ⟨Nat.le_of_ble_eq_true rfl, Nat.le_of_ble_eq_true rfl⟩ ⟨Nat.le_of_ble_eq_true rfl, Nat.le_of_ble_eq_true rfl⟩ rfl rfl rfl (Nat.le_of_ble_eq_true rfl) rfl dX5_count_103 (fun _ => ?_)
              refine s_if_eq C 113 109 rfl dX5_count_106 rfl (fun hc12 => ?_) (fun hc12 => ?_)
              · replace hf := ite_t hc12 hf
                refine s_iconst C 114 rfl dX5_count_113 ic_1 ?_
                obtain rfl := Option.some.inj hf
                exact s_iret C kc hr hlk rfl rfl dX5_count_114
              · replace hf := ite_f hc12 hf
                refine s_iconst C 110 rfl dX5_count_109 ic_0 ?_
                refine s_goto C 114 dX5_count_110 rfl ?_
                obtain rfl := Option.some.inj hf
                exact s_iret C kc hr hlk rfl rfl dX5_count_114
            · replace hf := ite_f hc13 hf
              by_cases hc14 : a1 = (6 : Int32)
              · replace hf := ite_t hc14 hf
                refine s_tableIn (off := 114) C 115 dX5_count_1 (by rw [hc14]; decide) (by rw [hc14]; decide) (by rw [hc14]; rfl) rfl ?_
                refine s_aload_n C 116 0 rfl dX5_count_115 rfl ?_
                refine s_get (C1 := RX5) (T := TX5) (N := 11) (ci := 4) C 119 0 9 uX5 rfl rfl (Nat.le_of_ble_eq_true rfl) uu148 rfl rfl rfl dX5_count_116 ?_
                obtain rfl := Option.some.inj hf
                exact s_iret C kc hr hlk rfl rfl dX5_count_119
              · replace hf := ite_f hc14 hf
                by_cases hc15 : a1 = (7 : Int32)
                · replace hf := ite_t hc15 hf
                  refine s_tableIn (off := 119) C 120 dX5_count_1 (by rw [hc15]; decide) (by rw [hc15]; decide) (by rw [hc15]; rfl) rfl ?_
                  refine s_aload_n C 121 0 rfl dX5_count_120 rfl ?_
                  refine s_get (C1 := RX5) (T := TX5) (N := 11) (ci := 4) C 124 0 5 uX5 rfl rfl (Nat.le_of_ble_eq_true rfl) uu140 rfl rfl rfl dX5_count_121 ?_
                  refine s_get (C1 := RX4) (T := TX4) (N := 2) (ci := 3) C 127 16 1 uX4 rfl rfl (Nat.le_of_ble_eq_true rfl) uu126 rfl rfl rfl dX5_count_124 ?_
                  obtain rfl := Option.some.inj hf
                  exact s_iret C kc hr hlk rfl rfl dX5_count_127
                · replace hf := ite_f hc15 hf
                  refine s_tableOut C 128 dX5_count_1 (sw_out_X5_count_1 hc1 hc2 hc3 hc6 hc9 hc13 hc14 hc15) rfl ?_
                  refine s_iload_n C 129 1 rfl dX5_count_128 rfl ?_
                  refine s_bipush C 131 rfl dX5_count_129 bp_11 ?_
                  refine s_icmp_lt C 152 134 rfl dX5_count_131 rfl (fun hc18 => ?_) (fun hc18 => ?_)
                  · replace hf := ite_t hc18 hf
                    refine s_bipush C 154 rfl dX5_count_152 bp_m9 ?_
                    obtain rfl := Option.some.inj hf
                    exact s_iret C kc hr hlk rfl rfl dX5_count_154
                  · replace hf := ite_f hc18 hf
                    refine s_iload_n C 135 1 rfl dX5_count_134 rfl ?_
                    refine s_bipush C 137 rfl dX5_count_135 bp_16 ?_
                    refine s_icmp_gt C 152 140 rfl dX5_count_137 rfl (fun hc17 => ?_) (fun hc17 => ?_)
                    · replace hf := ite_t hc17 hf
                      refine s_bipush C 154 rfl dX5_count_152 bp_m9 ?_
                      obtain rfl := Option.some.inj hf
                      exact s_iret C kc hr hlk rfl rfl dX5_count_154
                    · replace hf := ite_f hc17 hf
                      refine s_aload_n C 141 0 rfl dX5_count_140 rfl ?_
                      refine s_get (C1 := RX5) (T := TX5) (N := 11) (ci := 4) C 144 0 7 uX5 rfl rfl (Nat.le_of_ble_eq_true rfl) uu144 rfl rfl rfl dX5_count_141 ?_
                      refine s_iload_n C 145 1 rfl dX5_count_144 rfl ?_
                      refine s_bipush C 147 rfl dX5_count_145 bp_10 ?_
                      refine s_isub C 148 rfl dX5_count_147 ?_
                      obtain ⟨h16, hf⟩ := ck_in hf
                      refine s_iald C 149 19 rfl h16 rfl dX5_count_148 ?_
                      refine s_goto C 154 dX5_count_149 rfl ?_
                      obtain rfl := Option.some.inj hf
                      exact s_iret C kc hr hlk rfl rfl dX5_count_154


theorem hd_X5_heir : yX5_heir.cls = RX5 ∧ yX5_heir.cls ≠ "java/lang/invoke/MethodHandle" ∧ yX5_heir.cls ≠ "java/lang/invoke/VarHandle" ∧ (parseMethodDescriptor yX5_heir.desc).map (fun d => d.parameters.length) = some 2 := by decide +kernel
set_option maxHeartbeats 4000000 in
set_option maxRecDepth 100000 in
theorem c_X5_heir (l : Launch) (D : va_G) (cI : ClassId) (adK adV : Nat → Nat) (ad : Nat → Nat) (kc : Nat → Nat) (tolds : Int32) (hasImage : Int32) (n_heirs : Int32) (n_left : Int32) (n_bitten : Int32) (n_kinds : (Nat → Int32)) (n_figures : (Nat → Int32)) (k_heirs : Int32) (k_left : Int32) (k_bitten : Int32) (k_kinds : (Nat → Int32)) (k_figures : (Nat → Int32)) (t_heirs : Int32) (t_left : Int32) (t_bitten : Int32) (t_kinds : (Nat → Int32)) (t_figures : (Nat → Int32)) (r_gone : Int32) (r_heaps : Int32) (r_fewestCells : Int32) (r_deed : Int32) (c_ways : (Nat → Int32)) (c_fewest : (Nat → Int32)) (c_nextWays : (Nat → Int32)) (c_nextFewest : (Nat → Int32)) (x_length : Int32) (x_letters : (Nat → Int32)) (told : (Nat → Int32)) (refusals : (Nat → Int32)) (ends : (Nat → Int32)) (a1 : Int32) (a2 : Int32) (o : Int32 × Int32 × Int32 × Int32 × Int32 × (Nat → Int32)) (hf : f_X5_heir n_heirs n_left n_kinds n_figures r_gone r_heaps r_fewestCells r_deed refusals a1 a2 = some o) : Ct l D cI adK adV yX5_heir (wy yX5_heir cX5_heir 3 (some .int)) { frames := 4, cells := 0, slots := 0, locals := 93 } 0 0 [.ref (ad 0), .int a1, .int a2] (wX ad kc cI tolds hasImage n_heirs n_left n_bitten n_kinds n_figures k_heirs k_left k_bitten k_kinds k_figures t_heirs t_left t_bitten t_kinds t_figures r_gone r_heaps r_fewestCells r_deed c_ways c_fewest c_nextWays c_nextFewest x_length x_letters told refusals ends) (fun _ => (wX ad kc cI tolds hasImage n_heirs n_left n_bitten n_kinds n_figures k_heirs k_left k_bitten k_kinds k_figures t_heirs t_left t_bitten t_kinds t_figures o.2.1 o.2.2.1 o.2.2.2.1 o.2.2.2.2.1 c_ways c_fewest c_nextWays c_nextFewest x_length x_letters told o.2.2.2.2.2 ends)) (some (.int o.1)) := by
  refine Ct.of (cc := cX5_heir) (nL := 3) (ret := (some .int)) (own := RX5) (by decide) (Nat.le_of_ble_eq_true rfl) rfl ?_
  intro p e s m args below meth c A C hr hlk hnm
  refine s_lv (lv1 := [(0, .ref (ad 0)), (1, .int a1), (2, .int a2)]) [0, 1, 2] rfl ?_
  unfold f_X5_heir at hf
  refine s_aload_n C 1 0 rfl dX5_heir_0 rfl ?_
  refine s_iload_n C 2 1 rfl dX5_heir_1 rfl ?_
  obtain ⟨r1, q2, hf⟩ := bn_s hf
  refine s_callW (T := TX5) (N := 11) (ci := 4) (q0 := 0) (rest := []) C 5 (c_X5_isHeir l D cI adK adV ad kc tolds hasImage n_heirs n_left n_bitten n_kinds n_figures k_heirs k_left k_bitten k_kinds k_figures t_heirs t_left t_bitten t_kinds t_figures r_gone r_heaps r_fewestCells r_deed c_ways c_fewest c_nextWays c_nextFewest x_length x_letters told refusals ends a1 r1 q2) (gV uu511 uu513 uu1547 uu1 uu514) hd_X5_isHeir rfl ⟨rfl, rfl⟩ ⟨Nat.le_of_ble_eq_true rfl, Nat.le_of_ble_eq_true rfl⟩ ⟨Nat.le_of_ble_eq_true rfl, Nat.le_of_ble_eq_true rfl⟩ rfl rfl rfl (Nat.le_of_ble_eq_true rfl) rfl dX5_heir_2 (fun _ => ?_)
  refine s_if_ne C 14 8 rfl dX5_heir_5 rfl (fun hc17 => ?_) (fun hc17 => ?_)
  · replace hf := ite_f hc17 hf
    refine s_iload_n C 15 2 rfl dX5_heir_14 rfl ?_
    refine s_if_lt C 23 18 rfl dX5_heir_15 rfl (fun hc14 => ?_) (fun hc14 => ?_)
    · replace hf := ite_t hc14 hf
      refine s_aload_n C 24 0 rfl dX5_heir_23 rfl ?_
      refine s_bipush C 26 rfl dX5_heir_24 bp_m2 ?_
      obtain ⟨r3, q4, hf⟩ := bn_s hf
      refine s_callW (T := TX5) (N := 11) (ci := 4) (q0 := 0) (rest := []) C 29 (c_X5_refused l D cI adK adV ad kc tolds hasImage n_heirs n_left n_bitten n_kinds n_figures k_heirs k_left k_bitten k_kinds k_figures t_heirs t_left t_bitten t_kinds t_figures r_gone r_heaps r_fewestCells r_deed c_ways c_fewest c_nextWays c_nextFewest x_length x_letters told refusals ends (-2 : Int32) r3 q4) (gV uu169 uu171 uu1541 uu1 uu172) hd_X5_refused rfl ⟨rfl, rfl⟩ ⟨Nat.le_of_ble_eq_true rfl, Nat.le_of_ble_eq_true rfl⟩ ⟨Nat.le_of_ble_eq_true rfl, Nat.le_of_ble_eq_true rfl⟩ rfl rfl rfl (Nat.le_of_ble_eq_true rfl) rfl dX5_heir_26 (fun _ => ?_)
      obtain rfl := Option.some.inj hf
      exact s_iret C kc hr hlk rfl rfl dX5_heir_29
    · replace hf := ite_f hc14 hf
      refine s_iload_n C 19 2 rfl dX5_heir_18 rfl ?_
      refine s_iconst C 20 rfl dX5_heir_19 ic_2 ?_
      refine s_icmp_le C 30 23 rfl dX5_heir_20 rfl (fun hc13 => ?_) (fun hc13 => ?_)
      · replace hf := ite_t hc13 hf
        refine s_iload_n C 31 2 rfl dX5_heir_30 rfl ?_
        refine s_if_ne C 44 34 rfl dX5_heir_31 rfl (fun hc10 => ?_) (fun hc10 => ?_)
        · replace hf := ite_f hc10 hf
          refine s_iload_n C 45 2 rfl dX5_heir_44 rfl ?_
          refine s_iconst C 46 rfl dX5_heir_45 ic_1 ?_
          refine s_icmp_ne C 59 49 rfl dX5_heir_46 rfl (fun hc8 => ?_) (fun hc8 => ?_)
          · replace hf := ite_f hc8 hf
            refine s_aload_n C 60 0 rfl dX5_heir_59 rfl ?_
            refine s_iload_n C 61 1 rfl dX5_heir_60 rfl ?_
            refine s_aload_n C 62 0 rfl dX5_heir_61 rfl ?_
            refine s_get (C1 := RX5) (T := TX5) (N := 11) (ci := 4) C 65 0 0 uX5 rfl rfl (Nat.le_of_ble_eq_true rfl) uu130 rfl rfl rfl dX5_heir_62 ?_
            refine s_get (C1 := RX0) (T := TX0) (N := 5) (ci := 0) C 68 1 3 uX0 rfl rfl (Nat.le_of_ble_eq_true rfl) uu53 rfl rfl rfl dX5_heir_65 ?_
            obtain ⟨r5, q6, hf⟩ := bn_s hf
            refine s_callW (T := TX5) (N := 11) (ci := 4) (q0 := 0) (rest := []) C 71 (c_X5_shareOf l D cI adK adV ad kc tolds hasImage n_heirs n_left n_bitten n_kinds n_figures k_heirs k_left k_bitten k_kinds k_figures t_heirs t_left t_bitten t_kinds t_figures r_gone r_heaps r_fewestCells r_deed c_ways c_fewest c_nextWays c_nextFewest x_length x_letters told refusals ends a1 n_left r5 q6) (gV uu516 uu518 uu1548 uu1 uu519) hd_X5_shareOf rfl ⟨rfl, rfl⟩ ⟨Nat.le_of_ble_eq_true rfl, Nat.le_of_ble_eq_true rfl⟩ ⟨Nat.le_of_ble_eq_true rfl, Nat.le_of_ble_eq_true rfl⟩ rfl rfl rfl (Nat.le_of_ble_eq_true rfl) rfl dX5_heir_68 (fun _ => ?_)
            obtain rfl := Option.some.inj hf
            exact s_iret C kc hr hlk rfl rfl dX5_heir_71
          · replace hf := ite_t hc8 hf
            refine s_aload_n C 50 0 rfl dX5_heir_49 rfl ?_
            refine s_get (C1 := RX5) (T := TX5) (N := 11) (ci := 4) C 53 0 0 uX5 rfl rfl (Nat.le_of_ble_eq_true rfl) uu130 rfl rfl rfl dX5_heir_50 ?_
            refine s_get (C1 := RX0) (T := TX0) (N := 5) (ci := 0) C 56 1 1 uX0 rfl rfl (Nat.le_of_ble_eq_true rfl) uu45 rfl rfl rfl dX5_heir_53 ?_
            refine s_iload_n C 57 1 rfl dX5_heir_56 rfl ?_
            obtain ⟨h7, hf⟩ := ck_in hf
            refine s_iald C 58 3 rfl h7 rfl dX5_heir_57 ?_
            obtain rfl := Option.some.inj hf
            exact s_iret C kc hr hlk rfl rfl dX5_heir_58
        · replace hf := ite_t hc10 hf
          refine s_aload_n C 35 0 rfl dX5_heir_34 rfl ?_
          refine s_get (C1 := RX5) (T := TX5) (N := 11) (ci := 4) C 38 0 0 uX5 rfl rfl (Nat.le_of_ble_eq_true rfl) uu130 rfl rfl rfl dX5_heir_35 ?_
          refine s_get (C1 := RX0) (T := TX0) (N := 5) (ci := 0) C 41 1 0 uX0 rfl rfl (Nat.le_of_ble_eq_true rfl) uu41 rfl rfl rfl dX5_heir_38 ?_
          refine s_iload_n C 42 1 rfl dX5_heir_41 rfl ?_
          obtain ⟨h9, hf⟩ := ck_in hf
          refine s_iald C 43 2 rfl h9 rfl dX5_heir_42 ?_
          obtain rfl := Option.some.inj hf
          exact s_iret C kc hr hlk rfl rfl dX5_heir_43
      · replace hf := ite_f hc13 hf
        refine s_aload_n C 24 0 rfl dX5_heir_23 rfl ?_
        refine s_bipush C 26 rfl dX5_heir_24 bp_m2 ?_
        obtain ⟨r11, q12, hf⟩ := bn_s hf
        refine s_callW (T := TX5) (N := 11) (ci := 4) (q0 := 0) (rest := []) C 29 (c_X5_refused l D cI adK adV ad kc tolds hasImage n_heirs n_left n_bitten n_kinds n_figures k_heirs k_left k_bitten k_kinds k_figures t_heirs t_left t_bitten t_kinds t_figures r_gone r_heaps r_fewestCells r_deed c_ways c_fewest c_nextWays c_nextFewest x_length x_letters told refusals ends (-2 : Int32) r11 q12) (gV uu169 uu171 uu1541 uu1 uu172) hd_X5_refused rfl ⟨rfl, rfl⟩ ⟨Nat.le_of_ble_eq_true rfl, Nat.le_of_ble_eq_true rfl⟩ ⟨Nat.le_of_ble_eq_true rfl, Nat.le_of_ble_eq_true rfl⟩ rfl rfl rfl (Nat.le_of_ble_eq_true rfl) rfl dX5_heir_26 (fun _ => ?_)
        obtain rfl := Option.some.inj hf
        exact s_iret C kc hr hlk rfl rfl dX5_heir_29
  · replace hf := ite_t hc17 hf
    refine s_aload_n C 9 0 rfl dX5_heir_8 rfl ?_
    refine s_iconst C 10 rfl dX5_heir_9 ic_m1 ?_
    obtain ⟨r15, q16, hf⟩ := bn_s hf
    refine s_callW (T := TX5) (N := 11) (ci := 4) (q0 := 0) (rest := []) C 13 (c_X5_refused l D cI adK adV ad kc tolds hasImage n_heirs n_left n_bitten n_kinds n_figures k_heirs k_left k_bitten k_kinds k_figures t_heirs t_left t_bitten t_kinds t_figures r_gone r_heaps r_fewestCells r_deed c_ways c_fewest c_nextWays c_nextFewest x_length x_letters told refusals ends (-1 : Int32) r15 q16) (gV uu169 uu171 uu1541 uu1 uu172) hd_X5_refused rfl ⟨rfl, rfl⟩ ⟨Nat.le_of_ble_eq_true rfl, Nat.le_of_ble_eq_true rfl⟩ ⟨Nat.le_of_ble_eq_true rfl, Nat.le_of_ble_eq_true rfl⟩ rfl rfl rfl (Nat.le_of_ble_eq_true rfl) rfl dX5_heir_10 (fun _ => ?_)
    obtain rfl := Option.some.inj hf
    exact s_iret C kc hr hlk rfl rfl dX5_heir_13


theorem hd_X5_ways : yX5_ways.cls = RX5 ∧ yX5_ways.cls ≠ "java/lang/invoke/MethodHandle" ∧ yX5_ways.cls ≠ "java/lang/invoke/VarHandle" ∧ (parseMethodDescriptor yX5_ways.desc).map (fun d => d.parameters.length) = some 1 := by decide +kernel
set_option maxHeartbeats 4000000 in
set_option maxRecDepth 100000 in
theorem c_X5_ways (l : Launch) (D : va_G) (cI : ClassId) (adK adV : Nat → Nat) (ad : Nat → Nat) (kc : Nat → Nat) (tolds : Int32) (hasImage : Int32) (n_heirs : Int32) (n_left : Int32) (n_bitten : Int32) (n_kinds : (Nat → Int32)) (n_figures : (Nat → Int32)) (k_heirs : Int32) (k_left : Int32) (k_bitten : Int32) (k_kinds : (Nat → Int32)) (k_figures : (Nat → Int32)) (t_heirs : Int32) (t_left : Int32) (t_bitten : Int32) (t_kinds : (Nat → Int32)) (t_figures : (Nat → Int32)) (r_gone : Int32) (r_heaps : Int32) (r_fewestCells : Int32) (r_deed : Int32) (c_ways : (Nat → Int32)) (c_fewest : (Nat → Int32)) (c_nextWays : (Nat → Int32)) (c_nextFewest : (Nat → Int32)) (x_length : Int32) (x_letters : (Nat → Int32)) (told : (Nat → Int32)) (refusals : (Nat → Int32)) (ends : (Nat → Int32)) (a1 : Int32) (o : Int32 × (Nat → Int32) × (Nat → Int32) × (Nat → Int32) × (Nat → Int32) × (Nat → Int32)) (hf : f_X5_ways n_left c_ways c_fewest c_nextWays c_nextFewest refusals a1 = some o) : Ct l D cI adK adV yX5_ways (wy yX5_ways cX5_ways 2 (some .int)) { frames := 4, cells := 0, slots := 0, locals := 96 } 0 0 [.ref (ad 0), .int a1] (wX ad kc cI tolds hasImage n_heirs n_left n_bitten n_kinds n_figures k_heirs k_left k_bitten k_kinds k_figures t_heirs t_left t_bitten t_kinds t_figures r_gone r_heaps r_fewestCells r_deed c_ways c_fewest c_nextWays c_nextFewest x_length x_letters told refusals ends) (fun k => (wX ad k cI tolds hasImage n_heirs n_left n_bitten n_kinds n_figures k_heirs k_left k_bitten k_kinds k_figures t_heirs t_left t_bitten t_kinds t_figures r_gone r_heaps r_fewestCells r_deed o.2.1 o.2.2.1 o.2.2.2.1 o.2.2.2.2.1 x_length x_letters told o.2.2.2.2.2 ends)) (some (.int o.1)) := by
  refine Ct.of (cc := cX5_ways) (nL := 2) (ret := (some .int)) (own := RX5) (by decide) (Nat.le_of_ble_eq_true rfl) rfl ?_
  intro p e s m args below meth c A C hr hlk hnm
  refine s_lv (lv1 := [(0, .ref (ad 0)), (1, .int a1)]) [0, 1] rfl ?_
  unfold f_X5_ways at hf
  refine s_iload_n C 1 1 rfl dX5_ways_0 rfl ?_
  obtain ⟨r1, q2, hf⟩ := bn_s hf
  refine s_callS0 (host := "") (rest := []) C 4 (c_X5_isTwofold l D cI adK adV a1 r1 q2) (gS uu601 uu603 uu1 uu604) hd_X5_isTwofold rfl ⟨rfl, rfl⟩ ⟨Nat.le_of_ble_eq_true rfl, Nat.le_of_ble_eq_true rfl⟩ ⟨Nat.le_of_ble_eq_true rfl, Nat.le_of_ble_eq_true rfl⟩ rfl (Nat.le_of_ble_eq_true rfl) rfl dX5_ways_1 ?_
  refine s_if_ne C 14 7 rfl dX5_ways_4 rfl (fun hc13 => ?_) (fun hc13 => ?_)
  · replace hf := ite_f hc13 hf
    refine s_aload_n C 15 0 rfl dX5_ways_14 rfl ?_
    refine s_get (C1 := RX5) (T := TX5) (N := 11) (ci := 4) C 18 0 4 uX5 rfl rfl (Nat.le_of_ble_eq_true rfl) uu138 rfl rfl rfl dX5_ways_15 ?_
    refine s_aload_n C 19 0 rfl dX5_ways_18 rfl ?_
    refine s_get (C1 := RX5) (T := TX5) (N := 11) (ci := 4) C 22 0 0 uX5 rfl rfl (Nat.le_of_ble_eq_true rfl) uu130 rfl rfl rfl dX5_ways_19 ?_
    refine s_get (C1 := RX0) (T := TX0) (N := 5) (ci := 0) C 25 1 3 uX0 rfl rfl (Nat.le_of_ble_eq_true rfl) uu53 rfl rfl rfl dX5_ways_22 ?_
    obtain ⟨r3, q4, hf⟩ := bn_s hf
    refine s_callV (T := TX1) (N := 4) (ci := 1) (q0 := 11) (rest := []) (wr := [((ad 0), .inr (4, [.ref (ad 1), .ref (ad 4), .ref (ad 7), .ref (ad 10), .ref (ad 11), .ref (ad 12), .ref (ad 14), .ref (ad 15), .ref (ad 16), .int tolds, .int hasImage])), ((ad 1), .inr (0, [.ref (ad 2), .ref (ad 3), .int n_heirs, .int n_left, .int n_bitten])), ((ad 2), .inl (cI, 5, .inl n_kinds)), ((ad 3), .inl (cI, 5, .inl n_figures)), ((ad 4), .inr (0, [.ref (ad 5), .ref (ad 6), .int k_heirs, .int k_left, .int k_bitten])), ((ad 5), .inl (cI, 5, .inl k_kinds)), ((ad 6), .inl (cI, 5, .inl k_figures)), ((ad 7), .inr (0, [.ref (ad 8), .ref (ad 9), .int t_heirs, .int t_left, .int t_bitten])), ((ad 8), .inl (cI, 5, .inl t_kinds)), ((ad 9), .inl (cI, 5, .inl t_figures)), ((ad 10), .inr (2, [.int r_gone, .int r_heaps, .int r_fewestCells, .int r_deed])), ((ad 12), .inr (3, [.ref (ad 13), .int x_length])), ((ad 13), .inl (cI, 96, .inl x_letters)), ((ad 14), .inl (cI, 16, .inl told)), ((ad 15), .inl (cI, 7, .inl refusals)), ((ad 16), .inl (cI, 4, .inl ends))]) (ws2 := fun kc5 => (wX ad kc5 cI tolds hasImage n_heirs n_left n_bitten n_kinds n_figures k_heirs k_left k_bitten k_kinds k_figures t_heirs t_left t_bitten t_kinds t_figures r_gone r_heaps r_fewestCells r_deed r3.1 r3.2.1 r3.2.2.1 r3.2.2.2 x_length x_letters told refusals ends)) C 28 (c_X1_covers l D cI adK adV (ad 11) kc c_ways c_fewest c_nextWays c_nextFewest n_left r3 q4) (gV uu670 uu672 uu673 uu4 uu674) hd_X1_covers rfl ⟨rfl, rfl⟩ ⟨Nat.le_of_ble_eq_true rfl, Nat.le_of_ble_eq_true rfl⟩ ⟨Nat.le_of_ble_eq_true rfl, Nat.le_of_ble_eq_true rfl⟩ rfl rfl rfl (Nat.le_of_ble_eq_true rfl) [11, 12, 13, 14, 15] [0, 1, 2, 3, 4, 5, 6, 7, 8, 9, 10, 16, 17, 18, 19, 20] [0, 1, 2, 3, 4, 5, 6, 7, 8, 9, 10, 16, 17, 18, 19, 20, 11, 12, 13, 14, 15] rfl rfl rfl rfl (by decide) rfl (fun _ => rfl) (fun _ => rfl) rfl dX5_ways_25 (fun kc5 => ?_)
    refine s_iload_n C 29 1 rfl dX5_ways_28 rfl ?_
    refine s_if_ne C 42 32 rfl dX5_ways_29 rfl (fun hc10 => ?_) (fun hc10 => ?_)
    · replace hf := ite_f hc10 hf
      refine s_aload_n C 43 0 rfl dX5_ways_42 rfl ?_
      refine s_get (C1 := RX5) (T := TX5) (N := 11) (ci := 4) C 46 0 4 uX5 rfl rfl (Nat.le_of_ble_eq_true rfl) uu138 rfl rfl rfl dX5_ways_43 ?_
      obtain ⟨r6, q7, hf⟩ := bn_s hf
      refine s_callV (T := TX1) (N := 4) (ci := 1) (q0 := 11) (rest := []) (wr := [((ad 0), .inr (4, [.ref (ad 1), .ref (ad 4), .ref (ad 7), .ref (ad 10), .ref (ad 11), .ref (ad 12), .ref (ad 14), .ref (ad 15), .ref (ad 16), .int tolds, .int hasImage])), ((ad 1), .inr (0, [.ref (ad 2), .ref (ad 3), .int n_heirs, .int n_left, .int n_bitten])), ((ad 2), .inl (cI, 5, .inl n_kinds)), ((ad 3), .inl (cI, 5, .inl n_figures)), ((ad 4), .inr (0, [.ref (ad 5), .ref (ad 6), .int k_heirs, .int k_left, .int k_bitten])), ((ad 5), .inl (cI, 5, .inl k_kinds)), ((ad 6), .inl (cI, 5, .inl k_figures)), ((ad 7), .inr (0, [.ref (ad 8), .ref (ad 9), .int t_heirs, .int t_left, .int t_bitten])), ((ad 8), .inl (cI, 5, .inl t_kinds)), ((ad 9), .inl (cI, 5, .inl t_figures)), ((ad 10), .inr (2, [.int r_gone, .int r_heaps, .int r_fewestCells, .int r_deed])), ((ad 12), .inr (3, [.ref (ad 13), .int x_length])), ((ad 13), .inl (cI, 96, .inl x_letters)), ((ad 14), .inl (cI, 16, .inl told)), ((ad 15), .inl (cI, 7, .inl refusals)), ((ad 16), .inl (cI, 4, .inl ends))]) (ws2 := fun _ => (wX ad kc5 cI tolds hasImage n_heirs n_left n_bitten n_kinds n_figures k_heirs k_left k_bitten k_kinds k_figures t_heirs t_left t_bitten t_kinds t_figures r_gone r_heaps r_fewestCells r_deed r3.1 r3.2.1 r3.2.2.1 r3.2.2.2 x_length x_letters told refusals ends)) C 49 (c_X1_fewDone l D cI adK adV (ad 11) kc5 r3.1 r3.2.1 r3.2.2.1 r3.2.2.2 r6 q7) (gV uu708 uu710 uu711 uu4 uu712) hd_X1_fewDone rfl ⟨rfl, rfl⟩ ⟨Nat.le_of_ble_eq_true rfl, Nat.le_of_ble_eq_true rfl⟩ ⟨Nat.le_of_ble_eq_true rfl, Nat.le_of_ble_eq_true rfl⟩ rfl rfl rfl (Nat.le_of_ble_eq_true rfl) [11, 12, 13, 14, 15] [0, 1, 2, 3, 4, 5, 6, 7, 8, 9, 10, 16, 17, 18, 19, 20] [0, 1, 2, 3, 4, 5, 6, 7, 8, 9, 10, 16, 17, 18, 19, 20, 11, 12, 13, 14, 15] rfl rfl rfl rfl (by decide) rfl (fun _ => rfl) (fun _ => rfl) rfl dX5_ways_46 (fun _ => ?_)
      obtain rfl := Option.some.inj hf
      exact s_iret C kc5 hr hlk rfl rfl dX5_ways_49
    · replace hf := ite_t hc10 hf
      refine s_aload_n C 33 0 rfl dX5_ways_32 rfl ?_
      refine s_get (C1 := RX5) (T := TX5) (N := 11) (ci := 4) C 36 0 4 uX5 rfl rfl (Nat.le_of_ble_eq_true rfl) uu138 rfl rfl rfl dX5_ways_33 ?_
      obtain ⟨r8, q9, hf⟩ := bn_s hf
      refine s_callV (T := TX1) (N := 4) (ci := 1) (q0 := 11) (rest := []) (wr := [((ad 0), .inr (4, [.ref (ad 1), .ref (ad 4), .ref (ad 7), .ref (ad 10), .ref (ad 11), .ref (ad 12), .ref (ad 14), .ref (ad 15), .ref (ad 16), .int tolds, .int hasImage])), ((ad 1), .inr (0, [.ref (ad 2), .ref (ad 3), .int n_heirs, .int n_left, .int n_bitten])), ((ad 2), .inl (cI, 5, .inl n_kinds)), ((ad 3), .inl (cI, 5, .inl n_figures)), ((ad 4), .inr (0, [.ref (ad 5), .ref (ad 6), .int k_heirs, .int k_left, .int k_bitten])), ((ad 5), .inl (cI, 5, .inl k_kinds)), ((ad 6), .inl (cI, 5, .inl k_figures)), ((ad 7), .inr (0, [.ref (ad 8), .ref (ad 9), .int t_heirs, .int t_left, .int t_bitten])), ((ad 8), .inl (cI, 5, .inl t_kinds)), ((ad 9), .inl (cI, 5, .inl t_figures)), ((ad 10), .inr (2, [.int r_gone, .int r_heaps, .int r_fewestCells, .int r_deed])), ((ad 12), .inr (3, [.ref (ad 13), .int x_length])), ((ad 13), .inl (cI, 96, .inl x_letters)), ((ad 14), .inl (cI, 16, .inl told)), ((ad 15), .inl (cI, 7, .inl refusals)), ((ad 16), .inl (cI, 4, .inl ends))]) (ws2 := fun _ => (wX ad kc5 cI tolds hasImage n_heirs n_left n_bitten n_kinds n_figures k_heirs k_left k_bitten k_kinds k_figures t_heirs t_left t_bitten t_kinds t_figures r_gone r_heaps r_fewestCells r_deed r3.1 r3.2.1 r3.2.2.1 r3.2.2.2 x_length x_letters told refusals ends)) C 39 (c_X1_waysDone l D cI adK adV (ad 11) kc5 r3.1 r3.2.1 r3.2.2.1 r3.2.2.2 r8 q9) (gV uu702 uu704 uu705 uu4 uu706) hd_X1_waysDone rfl ⟨rfl, rfl⟩ ⟨Nat.le_of_ble_eq_true rfl, Nat.le_of_ble_eq_true rfl⟩ ⟨Nat.le_of_ble_eq_true rfl, Nat.le_of_ble_eq_true rfl⟩ rfl rfl rfl (Nat.le_of_ble_eq_true rfl) [11, 12, 13, 14, 15] [0, 1, 2, 3, 4, 5, 6, 7, 8, 9, 10, 16, 17, 18, 19, 20] [0, 1, 2, 3, 4, 5, 6, 7, 8, 9, 10, 16, 17, 18, 19, 20, 11, 12, 13, 14, 15] rfl rfl rfl rfl (by decide) rfl (fun _ => rfl) (fun _ => rfl) rfl dX5_ways_36 (fun _ => ?_)
      refine s_goto C 49 dX5_ways_39 rfl ?_
      obtain rfl := Option.some.inj hf
      exact s_iret C kc5 hr hlk rfl rfl dX5_ways_49
  · replace hf := ite_t hc13 hf
    refine s_aload_n C 8 0 rfl dX5_ways_7 rfl ?_
    refine s_bipush C 10 rfl dX5_ways_8 bp_m2 ?_
    obtain ⟨r11, q12, hf⟩ := bn_s hf
    refine s_callW (T := TX5) (N := 11) (ci := 4) (q0 := 0) (rest := []) C 13 (c_X5_refused l D cI adK adV ad kc tolds hasImage n_heirs n_left n_bitten n_kinds n_figures k_heirs k_left k_bitten k_kinds k_figures t_heirs t_left t_bitten t_kinds t_figures r_gone r_heaps r_fewestCells r_deed c_ways c_fewest c_nextWays c_nextFewest x_length x_letters told refusals ends (-2 : Int32) r11 q12) (gV uu169 uu171 uu1541 uu1 uu172) hd_X5_refused rfl ⟨rfl, rfl⟩ ⟨Nat.le_of_ble_eq_true rfl, Nat.le_of_ble_eq_true rfl⟩ ⟨Nat.le_of_ble_eq_true rfl, Nat.le_of_ble_eq_true rfl⟩ rfl rfl rfl (Nat.le_of_ble_eq_true rfl) rfl dX5_ways_10 (fun _ => ?_)
    obtain rfl := Option.some.inj hf
    exact s_iret C kc hr hlk rfl rfl dX5_ways_13


theorem hd_X5_settles : yX5_settles.cls = RX5 ∧ yX5_settles.cls ≠ "java/lang/invoke/MethodHandle" ∧ yX5_settles.cls ≠ "java/lang/invoke/VarHandle" ∧ (parseMethodDescriptor yX5_settles.desc).map (fun d => d.parameters.length) = some 1 := by decide +kernel
set_option maxHeartbeats 4000000 in
set_option maxRecDepth 100000 in
theorem c_X5_settles (l : Launch) (D : va_G) (cI : ClassId) (adK adV : Nat → Nat) (ad : Nat → Nat) (kc : Nat → Nat) (tolds : Int32) (hasImage : Int32) (n_heirs : Int32) (n_left : Int32) (n_bitten : Int32) (n_kinds : (Nat → Int32)) (n_figures : (Nat → Int32)) (k_heirs : Int32) (k_left : Int32) (k_bitten : Int32) (k_kinds : (Nat → Int32)) (k_figures : (Nat → Int32)) (t_heirs : Int32) (t_left : Int32) (t_bitten : Int32) (t_kinds : (Nat → Int32)) (t_figures : (Nat → Int32)) (r_gone : Int32) (r_heaps : Int32) (r_fewestCells : Int32) (r_deed : Int32) (c_ways : (Nat → Int32)) (c_fewest : (Nat → Int32)) (c_nextWays : (Nat → Int32)) (c_nextFewest : (Nat → Int32)) (x_length : Int32) (x_letters : (Nat → Int32)) (told : (Nat → Int32)) (refusals : (Nat → Int32)) (ends : (Nat → Int32)) (a1 : Int32) (o : Int32 × Int32 × Int32 × Int32 × Int32 × (Nat → Int32)) (hf : f_X5_settles n_left r_gone r_heaps r_fewestCells r_deed refusals a1 = some o) : Ct l D cI adK adV yX5_settles (wy yX5_settles cX5_settles 4 (some .int)) { frames := 6, cells := 0, slots := 0, locals := 137 } 0 0 [.ref (ad 0), .int a1] (wX ad kc cI tolds hasImage n_heirs n_left n_bitten n_kinds n_figures k_heirs k_left k_bitten k_kinds k_figures t_heirs t_left t_bitten t_kinds t_figures r_gone r_heaps r_fewestCells r_deed c_ways c_fewest c_nextWays c_nextFewest x_length x_letters told refusals ends) (fun _ => (wX ad kc cI tolds hasImage n_heirs n_left n_bitten n_kinds n_figures k_heirs k_left k_bitten k_kinds k_figures t_heirs t_left t_bitten t_kinds t_figures o.2.1 o.2.2.1 o.2.2.2.1 o.2.2.2.2.1 c_ways c_fewest c_nextWays c_nextFewest x_length x_letters told o.2.2.2.2.2 ends)) (some (.int o.1)) := by
  refine Ct.of (cc := cX5_settles) (nL := 4) (ret := (some .int)) (own := RX5) (by decide) (Nat.le_of_ble_eq_true rfl) rfl ?_
  intro p e s m args below meth c A C hr hlk hnm
  refine s_lv (lv1 := [(0, .ref (ad 0)), (1, .int a1)]) [0, 1] rfl ?_
  unfold f_X5_settles at hf
  refine s_iload_n C 1 1 rfl dX5_settles_0 rfl ?_
  obtain ⟨r1, q2, hf⟩ := bn_s hf
  refine s_callS0 (host := "") (rest := []) C 4 (c_X5_isTwofold l D cI adK adV a1 r1 q2) (gS uu601 uu603 uu1 uu604) hd_X5_isTwofold rfl ⟨rfl, rfl⟩ ⟨Nat.le_of_ble_eq_true rfl, Nat.le_of_ble_eq_true rfl⟩ ⟨Nat.le_of_ble_eq_true rfl, Nat.le_of_ble_eq_true rfl⟩ rfl (Nat.le_of_ble_eq_true rfl) rfl dX5_settles_1 ?_
  refine s_if_ne C 14 7 rfl dX5_settles_4 rfl (fun hc17 => ?_) (fun hc17 => ?_)
  · replace hf := ite_f hc17 hf
    refine s_aload_n C 15 0 rfl dX5_settles_14 rfl ?_
    refine s_aload_n C 16 0 rfl dX5_settles_15 rfl ?_
    refine s_get (C1 := RX5) (T := TX5) (N := 11) (ci := 4) C 19 0 0 uX5 rfl rfl (Nat.le_of_ble_eq_true rfl) uu130 rfl rfl rfl dX5_settles_16 ?_
    refine s_get (C1 := RX0) (T := TX0) (N := 5) (ci := 0) C 22 1 3 uX0 rfl rfl (Nat.le_of_ble_eq_true rfl) uu53 rfl rfl rfl dX5_settles_19 ?_
    obtain ⟨r3, q4, hf⟩ := bn_s hf
    refine s_callW (T := TX5) (N := 11) (ci := 4) (q0 := 0) (rest := []) C 25 (c_X5_isSettled l D cI adK adV ad kc tolds hasImage n_heirs n_left n_bitten n_kinds n_figures k_heirs k_left k_bitten k_kinds k_figures t_heirs t_left t_bitten t_kinds t_figures r_gone r_heaps r_fewestCells r_deed c_ways c_fewest c_nextWays c_nextFewest x_length x_letters told refusals ends n_left r3 q4) (gV uu730 uu732 uu1557 uu1 uu733) hd_X5_isSettled rfl ⟨rfl, rfl⟩ ⟨Nat.le_of_ble_eq_true rfl, Nat.le_of_ble_eq_true rfl⟩ ⟨Nat.le_of_ble_eq_true rfl, Nat.le_of_ble_eq_true rfl⟩ rfl rfl rfl (Nat.le_of_ble_eq_true rfl) rfl dX5_settles_22 (fun _ => ?_)
    refine s_if_eq C 39 28 rfl dX5_settles_25 rfl (fun hc14 => ?_) (fun hc14 => ?_)
    · replace hf := ite_t hc14 hf
      refine s_aload_n C 40 0 rfl dX5_settles_39 rfl ?_
      refine s_aload_n C 41 0 rfl dX5_settles_40 rfl ?_
      refine s_get (C1 := RX5) (T := TX5) (N := 11) (ci := 4) C 44 0 0 uX5 rfl rfl (Nat.le_of_ble_eq_true rfl) uu130 rfl rfl rfl dX5_settles_41 ?_
      refine s_get (C1 := RX0) (T := TX0) (N := 5) (ci := 0) C 47 1 3 uX0 rfl rfl (Nat.le_of_ble_eq_true rfl) uu53 rfl rfl rfl dX5_settles_44 ?_
      refine s_iconst C 48 rfl dX5_settles_47 ic_0 ?_
      obtain ⟨r5, q6, hf⟩ := bn_s hf
      refine s_callW (T := TX5) (N := 11) (ci := 4) (q0 := 0) (rest := []) C 51 (c_X5_firstCellThatSettles l D cI adK adV ad kc tolds hasImage n_heirs n_left n_bitten n_kinds n_figures k_heirs k_left k_bitten k_kinds k_figures t_heirs t_left t_bitten t_kinds t_figures r3.2.1 r3.2.2.1 r3.2.2.2.1 r3.2.2.2.2 c_ways c_fewest c_nextWays c_nextFewest x_length x_letters told refusals ends n_left (0 : Int32) r5 q6) (gV uu735 uu737 uu1558 uu1 uu738) hd_X5_firstCellThatSettles rfl ⟨rfl, rfl⟩ ⟨Nat.le_of_ble_eq_true rfl, Nat.le_of_ble_eq_true rfl⟩ ⟨Nat.le_of_ble_eq_true rfl, Nat.le_of_ble_eq_true rfl⟩ rfl rfl rfl (Nat.le_of_ble_eq_true rfl) rfl dX5_settles_48 (fun _ => ?_)
      refine s_istore_n (lv1 := [(2, .int r5.1), (0, .ref (ad 0)), (1, .int a1)]) C 52 2 rfl dX5_settles_51 rfl (Nat.le_of_ble_eq_true rfl) rfl ?_
      refine s_iload_n C 53 0 rfl dX5_settles_52 rfl ?_
      refine s_bipush C 55 rfl dX5_settles_53 bp_m9 ?_
      refine s_icmp_eq C 68 58 rfl dX5_settles_55 rfl (fun hc12 => ?_) (fun hc12 => ?_)
      · replace hf := ite_t hc12 hf
        refine s_aload_n C 69 1 rfl dX5_settles_68 rfl ?_
        obtain ⟨r7, q8, hf⟩ := bn_s hf
        refine s_callW (T := TX5) (N := 11) (ci := 4) (q0 := 0) (rest := []) C 72 (c_X5_firstOfTwoThatSettle l D cI adK adV ad kc tolds hasImage n_heirs n_left n_bitten n_kinds n_figures k_heirs k_left k_bitten k_kinds k_figures t_heirs t_left t_bitten t_kinds t_figures r5.2.1 r5.2.2.1 r5.2.2.2.1 r5.2.2.2.2 c_ways c_fewest c_nextWays c_nextFewest x_length x_letters told refusals ends r7 q8) (gV uu740 uu742 uu1559 uu1 uu743) hd_X5_firstOfTwoThatSettle rfl ⟨rfl, rfl⟩ ⟨Nat.le_of_ble_eq_true rfl, Nat.le_of_ble_eq_true rfl⟩ ⟨Nat.le_of_ble_eq_true rfl, Nat.le_of_ble_eq_true rfl⟩ rfl rfl rfl (Nat.le_of_ble_eq_true rfl) rfl dX5_settles_69 (fun _ => ?_)
        refine s_istore_n (lv1 := [(3, .int r7.1), (2, .int r5.1), (0, .ref (ad 0)), (1, .int a1)]) C 73 3 rfl dX5_settles_72 rfl (Nat.le_of_ble_eq_true rfl) rfl ?_
        refine s_iload_n C 74 0 rfl dX5_settles_73 rfl ?_
        refine s_bipush C 76 rfl dX5_settles_74 bp_m9 ?_
        refine s_icmp_eq C 89 79 rfl dX5_settles_76 rfl (fun hc10 => ?_) (fun hc10 => ?_)
        · replace hf := ite_t hc10 hf
          refine s_bipush C 91 rfl dX5_settles_89 bp_m9 ?_
          obtain rfl := Option.some.inj hf
          exact s_iret C kc hr hlk rfl rfl dX5_settles_91
        · replace hf := ite_f hc10 hf
          refine s_iload_n C 80 3 rfl dX5_settles_79 rfl ?_
          refine s_if_ne C 87 83 rfl dX5_settles_80 rfl (fun hc9 => ?_) (fun hc9 => ?_)
          · replace hf := ite_f hc9 hf
            refine s_iload_n C 88 0 rfl dX5_settles_87 rfl ?_
            obtain rfl := Option.some.inj hf
            exact s_iret C kc hr hlk rfl rfl dX5_settles_88
          · replace hf := ite_t hc9 hf
            refine s_iconst C 84 rfl dX5_settles_83 ic_2 ?_
            refine s_goto C 88 dX5_settles_84 rfl ?_
            obtain rfl := Option.some.inj hf
            exact s_iret C kc hr hlk rfl rfl dX5_settles_88
      · replace hf := ite_f hc12 hf
        refine s_iload_n C 59 2 rfl dX5_settles_58 rfl ?_
        refine s_if_ne C 66 62 rfl dX5_settles_59 rfl (fun hc11 => ?_) (fun hc11 => ?_)
        · replace hf := ite_f hc11 hf
          refine s_iload_n C 67 0 rfl dX5_settles_66 rfl ?_
          obtain rfl := Option.some.inj hf
          exact s_iret C kc hr hlk rfl rfl dX5_settles_67
        · replace hf := ite_t hc11 hf
          refine s_iconst C 63 rfl dX5_settles_62 ic_1 ?_
          refine s_goto C 67 dX5_settles_63 rfl ?_
          obtain rfl := Option.some.inj hf
          exact s_iret C kc hr hlk rfl rfl dX5_settles_67
    · replace hf := ite_f hc14 hf
      refine s_iload_n C 29 1 rfl dX5_settles_28 rfl ?_
      refine s_if_ne C 36 32 rfl dX5_settles_29 rfl (fun hc13 => ?_) (fun hc13 => ?_)
      · replace hf := ite_f hc13 hf
        refine s_bipush C 38 rfl dX5_settles_36 bp_m9 ?_
        obtain rfl := Option.some.inj hf
        exact s_iret C kc hr hlk rfl rfl dX5_settles_38
      · replace hf := ite_t hc13 hf
        refine s_iconst C 33 rfl dX5_settles_32 ic_0 ?_
        refine s_goto C 38 dX5_settles_33 rfl ?_
        obtain rfl := Option.some.inj hf
        exact s_iret C kc hr hlk rfl rfl dX5_settles_38
  · replace hf := ite_t hc17 hf
    refine s_aload_n C 8 0 rfl dX5_settles_7 rfl ?_
    refine s_bipush C 10 rfl dX5_settles_8 bp_m2 ?_
    obtain ⟨r15, q16, hf⟩ := bn_s hf
    refine s_callW (T := TX5) (N := 11) (ci := 4) (q0 := 0) (rest := []) C 13 (c_X5_refused l D cI adK adV ad kc tolds hasImage n_heirs n_left n_bitten n_kinds n_figures k_heirs k_left k_bitten k_kinds k_figures t_heirs t_left t_bitten t_kinds t_figures r_gone r_heaps r_fewestCells r_deed c_ways c_fewest c_nextWays c_nextFewest x_length x_letters told refusals ends (-2 : Int32) r15 q16) (gV uu169 uu171 uu1541 uu1 uu172) hd_X5_refused rfl ⟨rfl, rfl⟩ ⟨Nat.le_of_ble_eq_true rfl, Nat.le_of_ble_eq_true rfl⟩ ⟨Nat.le_of_ble_eq_true rfl, Nat.le_of_ble_eq_true rfl⟩ rfl rfl rfl (Nat.le_of_ble_eq_true rfl) rfl dX5_settles_10 (fun _ => ?_)
    obtain rfl := Option.some.inj hf
    exact s_iret C kc hr hlk rfl rfl dX5_settles_13


theorem hd_X5_best : yX5_best.cls = RX5 ∧ yX5_best.cls ≠ "java/lang/invoke/MethodHandle" ∧ yX5_best.cls ≠ "java/lang/invoke/VarHandle" ∧ (parseMethodDescriptor yX5_best.desc).map (fun d => d.parameters.length) = some 2 := by decide +kernel
set_option maxHeartbeats 4000000 in
set_option maxRecDepth 100000 in
theorem c_X5_best (l : Launch) (D : va_G) (cI : ClassId) (adK adV : Nat → Nat) (ad : Nat → Nat) (kc : Nat → Nat) (tolds : Int32) (hasImage : Int32) (n_heirs : Int32) (n_left : Int32) (n_bitten : Int32) (n_kinds : (Nat → Int32)) (n_figures : (Nat → Int32)) (k_heirs : Int32) (k_left : Int32) (k_bitten : Int32) (k_kinds : (Nat → Int32)) (k_figures : (Nat → Int32)) (t_heirs : Int32) (t_left : Int32) (t_bitten : Int32) (t_kinds : (Nat → Int32)) (t_figures : (Nat → Int32)) (r_gone : Int32) (r_heaps : Int32) (r_fewestCells : Int32) (r_deed : Int32) (c_ways : (Nat → Int32)) (c_fewest : (Nat → Int32)) (c_nextWays : (Nat → Int32)) (c_nextFewest : (Nat → Int32)) (x_length : Int32) (x_letters : (Nat → Int32)) (told : (Nat → Int32)) (refusals : (Nat → Int32)) (ends : (Nat → Int32)) (a1 : Int32) (a2 : Int32) (o : Int32 × Int32 × Int32 × Int32 × Int32 × (Nat → Int32)) (hf : f_X5_best n_heirs n_left n_kinds n_figures r_gone r_heaps r_fewestCells r_deed refusals a1 a2 = some o) : Ct l D cI adK adV yX5_best (wy yX5_best cX5_best 3 (some .int)) { frames := 5, cells := 0, slots := 0, locals := 121 } 0 0 [.ref (ad 0), .int a1, .int a2] (wX ad kc cI tolds hasImage n_heirs n_left n_bitten n_kinds n_figures k_heirs k_left k_bitten k_kinds k_figures t_heirs t_left t_bitten t_kinds t_figures r_gone r_heaps r_fewestCells r_deed c_ways c_fewest c_nextWays c_nextFewest x_length x_letters told refusals ends) (fun _ => (wX ad kc cI tolds hasImage n_heirs n_left n_bitten n_kinds n_figures k_heirs k_left k_bitten k_kinds k_figures t_heirs t_left t_bitten t_kinds t_figures o.2.1 o.2.2.1 o.2.2.2.1 o.2.2.2.2.1 c_ways c_fewest c_nextWays c_nextFewest x_length x_letters told o.2.2.2.2.2 ends)) (some (.int o.1)) := by
  refine Ct.of (cc := cX5_best) (nL := 3) (ret := (some .int)) (own := RX5) (by decide) (Nat.le_of_ble_eq_true rfl) rfl ?_
  intro p e s m args below meth c A C hr hlk hnm
  refine s_lv (lv1 := [(0, .ref (ad 0)), (1, .int a1), (2, .int a2)]) [0, 1, 2] rfl ?_
  unfold f_X5_best at hf
  refine s_aload_n C 1 0 rfl dX5_best_0 rfl ?_
  refine s_iload_n C 2 1 rfl dX5_best_1 rfl ?_
  obtain ⟨r1, q2, hf⟩ := bn_s hf
  refine s_callW (T := TX5) (N := 11) (ci := 4) (q0 := 0) (rest := []) C 5 (c_X5_isHeir l D cI adK adV ad kc tolds hasImage n_heirs n_left n_bitten n_kinds n_figures k_heirs k_left k_bitten k_kinds k_figures t_heirs t_left t_bitten t_kinds t_figures r_gone r_heaps r_fewestCells r_deed c_ways c_fewest c_nextWays c_nextFewest x_length x_letters told refusals ends a1 r1 q2) (gV uu511 uu513 uu1547 uu1 uu514) hd_X5_isHeir rfl ⟨rfl, rfl⟩ ⟨Nat.le_of_ble_eq_true rfl, Nat.le_of_ble_eq_true rfl⟩ ⟨Nat.le_of_ble_eq_true rfl, Nat.le_of_ble_eq_true rfl⟩ rfl rfl rfl (Nat.le_of_ble_eq_true rfl) rfl dX5_best_2 (fun _ => ?_)
  refine s_if_ne C 14 8 rfl dX5_best_5 rfl (fun hc14 => ?_) (fun hc14 => ?_)
  · replace hf := ite_f hc14 hf
    refine s_iload_n C 15 2 rfl dX5_best_14 rfl ?_
    obtain ⟨r3, q4, hf⟩ := bn_s hf
    refine s_callS0 (host := "") (rest := []) C 18 (c_X5_isTwofold l D cI adK adV a2 r3 q4) (gS uu601 uu603 uu1 uu604) hd_X5_isTwofold rfl ⟨rfl, rfl⟩ ⟨Nat.le_of_ble_eq_true rfl, Nat.le_of_ble_eq_true rfl⟩ ⟨Nat.le_of_ble_eq_true rfl, Nat.le_of_ble_eq_true rfl⟩ rfl (Nat.le_of_ble_eq_true rfl) rfl dX5_best_15 ?_
    refine s_if_ne C 28 21 rfl dX5_best_18 rfl (fun hc11 => ?_) (fun hc11 => ?_)
    · replace hf := ite_f hc11 hf
      refine s_aload_n C 29 0 rfl dX5_best_28 rfl ?_
      refine s_iload_n C 30 1 rfl dX5_best_29 rfl ?_
      refine s_aload_n C 31 0 rfl dX5_best_30 rfl ?_
      refine s_iload_n C 32 1 rfl dX5_best_31 rfl ?_
      refine s_aload_n C 33 0 rfl dX5_best_32 rfl ?_
      refine s_get (C1 := RX5) (T := TX5) (N := 11) (ci := 4) C 36 0 0 uX5 rfl rfl (Nat.le_of_ble_eq_true rfl) uu130 rfl rfl rfl dX5_best_33 ?_
      refine s_get (C1 := RX0) (T := TX0) (N := 5) (ci := 0) C 39 1 3 uX0 rfl rfl (Nat.le_of_ble_eq_true rfl) uu53 rfl rfl rfl dX5_best_36 ?_
      refine s_iconst C 40 rfl dX5_best_39 ic_1 ?_
      obtain ⟨r5, q6, hf⟩ := bn_s hf
      refine s_callW (T := TX5) (N := 11) (ci := 4) (q0 := 0) (rest := [.int a1, .ref (ad 0)]) C 43 (c_X5_furthestBite l D cI adK adV ad kc tolds hasImage n_heirs n_left n_bitten n_kinds n_figures k_heirs k_left k_bitten k_kinds k_figures t_heirs t_left t_bitten t_kinds t_figures r_gone r_heaps r_fewestCells r_deed c_ways c_fewest c_nextWays c_nextFewest x_length x_letters told refusals ends a1 n_left (1 : Int32) r5 q6) (gV uu794 uu796 uu1560 uu1 uu797) hd_X5_furthestBite rfl ⟨rfl, rfl⟩ ⟨Nat.le_of_ble_eq_true rfl, Nat.le_of_ble_eq_true rfl⟩ ⟨Nat.le_of_ble_eq_true rfl, Nat.le_of_ble_eq_true rfl⟩ rfl rfl rfl (Nat.le_of_ble_eq_true rfl) rfl dX5_best_40 (fun _ => ?_)
      refine s_iload_n C 44 2 rfl dX5_best_43 rfl ?_
      obtain ⟨r7, q8, hf⟩ := bn_s hf
      refine s_callW (T := TX5) (N := 11) (ci := 4) (q0 := 0) (rest := []) C 47 (c_X5_toldBite l D cI adK adV ad kc tolds hasImage n_heirs n_left n_bitten n_kinds n_figures k_heirs k_left k_bitten k_kinds k_figures t_heirs t_left t_bitten t_kinds t_figures r5.2.1 r5.2.2.1 r5.2.2.2.1 r5.2.2.2.2 c_ways c_fewest c_nextWays c_nextFewest x_length x_letters told refusals ends a1 r5.1 a2 r7 q8) (gV uu799 uu801 uu1561 uu1 uu802) hd_X5_toldBite rfl ⟨rfl, rfl⟩ ⟨Nat.le_of_ble_eq_true rfl, Nat.le_of_ble_eq_true rfl⟩ ⟨Nat.le_of_ble_eq_true rfl, Nat.le_of_ble_eq_true rfl⟩ rfl rfl rfl (Nat.le_of_ble_eq_true rfl) rfl dX5_best_44 (fun _ => ?_)
      obtain rfl := Option.some.inj hf
      exact s_iret C kc hr hlk rfl rfl dX5_best_47
    · replace hf := ite_t hc11 hf
      refine s_aload_n C 22 0 rfl dX5_best_21 rfl ?_
      refine s_bipush C 24 rfl dX5_best_22 bp_m2 ?_
      obtain ⟨r9, q10, hf⟩ := bn_s hf
      refine s_callW (T := TX5) (N := 11) (ci := 4) (q0 := 0) (rest := []) C 27 (c_X5_refused l D cI adK adV ad kc tolds hasImage n_heirs n_left n_bitten n_kinds n_figures k_heirs k_left k_bitten k_kinds k_figures t_heirs t_left t_bitten t_kinds t_figures r_gone r_heaps r_fewestCells r_deed c_ways c_fewest c_nextWays c_nextFewest x_length x_letters told refusals ends (-2 : Int32) r9 q10) (gV uu169 uu171 uu1541 uu1 uu172) hd_X5_refused rfl ⟨rfl, rfl⟩ ⟨Nat.le_of_ble_eq_true rfl, Nat.le_of_ble_eq_true rfl⟩ ⟨Nat.le_of_ble_eq_true rfl, Nat.le_of_ble_eq_true rfl⟩ rfl rfl rfl (Nat.le_of_ble_eq_true rfl) rfl dX5_best_24 (fun _ => ?_)
      obtain rfl := Option.some.inj hf
      exact s_iret C kc hr hlk rfl rfl dX5_best_27
  · replace hf := ite_t hc14 hf
    refine s_aload_n C 9 0 rfl dX5_best_8 rfl ?_
    refine s_iconst C 10 rfl dX5_best_9 ic_m1 ?_
    obtain ⟨r12, q13, hf⟩ := bn_s hf
    refine s_callW (T := TX5) (N := 11) (ci := 4) (q0 := 0) (rest := []) C 13 (c_X5_refused l D cI adK adV ad kc tolds hasImage n_heirs n_left n_bitten n_kinds n_figures k_heirs k_left k_bitten k_kinds k_figures t_heirs t_left t_bitten t_kinds t_figures r_gone r_heaps r_fewestCells r_deed c_ways c_fewest c_nextWays c_nextFewest x_length x_letters told refusals ends (-1 : Int32) r12 q13) (gV uu169 uu171 uu1541 uu1 uu172) hd_X5_refused rfl ⟨rfl, rfl⟩ ⟨Nat.le_of_ble_eq_true rfl, Nat.le_of_ble_eq_true rfl⟩ ⟨Nat.le_of_ble_eq_true rfl, Nat.le_of_ble_eq_true rfl⟩ rfl rfl rfl (Nat.le_of_ble_eq_true rfl) rfl dX5_best_10 (fun _ => ?_)
    obtain rfl := Option.some.inj hf
    exact s_iret C kc hr hlk rfl rfl dX5_best_13


theorem hd_X5_worst : yX5_worst.cls = RX5 ∧ yX5_worst.cls ≠ "java/lang/invoke/MethodHandle" ∧ yX5_worst.cls ≠ "java/lang/invoke/VarHandle" ∧ (parseMethodDescriptor yX5_worst.desc).map (fun d => d.parameters.length) = some 2 := by decide +kernel
set_option maxHeartbeats 4000000 in
set_option maxRecDepth 100000 in
theorem c_X5_worst (l : Launch) (D : va_G) (cI : ClassId) (adK adV : Nat → Nat) (ad : Nat → Nat) (kc : Nat → Nat) (tolds : Int32) (hasImage : Int32) (n_heirs : Int32) (n_left : Int32) (n_bitten : Int32) (n_kinds : (Nat → Int32)) (n_figures : (Nat → Int32)) (k_heirs : Int32) (k_left : Int32) (k_bitten : Int32) (k_kinds : (Nat → Int32)) (k_figures : (Nat → Int32)) (t_heirs : Int32) (t_left : Int32) (t_bitten : Int32) (t_kinds : (Nat → Int32)) (t_figures : (Nat → Int32)) (r_gone : Int32) (r_heaps : Int32) (r_fewestCells : Int32) (r_deed : Int32) (c_ways : (Nat → Int32)) (c_fewest : (Nat → Int32)) (c_nextWays : (Nat → Int32)) (c_nextFewest : (Nat → Int32)) (x_length : Int32) (x_letters : (Nat → Int32)) (told : (Nat → Int32)) (refusals : (Nat → Int32)) (ends : (Nat → Int32)) (a1 : Int32) (a2 : Int32) (o : Int32 × Int32 × Int32 × Int32 × Int32 × (Nat → Int32)) (hf : f_X5_worst n_heirs n_left n_kinds n_figures r_gone r_heaps r_fewestCells r_deed refusals a1 a2 = some o) : Ct l D cI adK adV yX5_worst (wy yX5_worst cX5_worst 3 (some .int)) { frames := 5, cells := 0, slots := 0, locals := 121 } 0 0 [.ref (ad 0), .int a1, .int a2] (wX ad kc cI tolds hasImage n_heirs n_left n_bitten n_kinds n_figures k_heirs k_left k_bitten k_kinds k_figures t_heirs t_left t_bitten t_kinds t_figures r_gone r_heaps r_fewestCells r_deed c_ways c_fewest c_nextWays c_nextFewest x_length x_letters told refusals ends) (fun _ => (wX ad kc cI tolds hasImage n_heirs n_left n_bitten n_kinds n_figures k_heirs k_left k_bitten k_kinds k_figures t_heirs t_left t_bitten t_kinds t_figures o.2.1 o.2.2.1 o.2.2.2.1 o.2.2.2.2.1 c_ways c_fewest c_nextWays c_nextFewest x_length x_letters told o.2.2.2.2.2 ends)) (some (.int o.1)) := by
  refine Ct.of (cc := cX5_worst) (nL := 3) (ret := (some .int)) (own := RX5) (by decide) (Nat.le_of_ble_eq_true rfl) rfl ?_
  intro p e s m args below meth c A C hr hlk hnm
  refine s_lv (lv1 := [(0, .ref (ad 0)), (1, .int a1), (2, .int a2)]) [0, 1, 2] rfl ?_
  unfold f_X5_worst at hf
  refine s_aload_n C 1 0 rfl dX5_worst_0 rfl ?_
  refine s_iload_n C 2 1 rfl dX5_worst_1 rfl ?_
  obtain ⟨r1, q2, hf⟩ := bn_s hf
  refine s_callW (T := TX5) (N := 11) (ci := 4) (q0 := 0) (rest := []) C 5 (c_X5_isHeir l D cI adK adV ad kc tolds hasImage n_heirs n_left n_bitten n_kinds n_figures k_heirs k_left k_bitten k_kinds k_figures t_heirs t_left t_bitten t_kinds t_figures r_gone r_heaps r_fewestCells r_deed c_ways c_fewest c_nextWays c_nextFewest x_length x_letters told refusals ends a1 r1 q2) (gV uu511 uu513 uu1547 uu1 uu514) hd_X5_isHeir rfl ⟨rfl, rfl⟩ ⟨Nat.le_of_ble_eq_true rfl, Nat.le_of_ble_eq_true rfl⟩ ⟨Nat.le_of_ble_eq_true rfl, Nat.le_of_ble_eq_true rfl⟩ rfl rfl rfl (Nat.le_of_ble_eq_true rfl) rfl dX5_worst_2 (fun _ => ?_)
  refine s_if_ne C 14 8 rfl dX5_worst_5 rfl (fun hc14 => ?_) (fun hc14 => ?_)
  · replace hf := ite_f hc14 hf
    refine s_iload_n C 15 2 rfl dX5_worst_14 rfl ?_
    obtain ⟨r3, q4, hf⟩ := bn_s hf
    refine s_callS0 (host := "") (rest := []) C 18 (c_X5_isTwofold l D cI adK adV a2 r3 q4) (gS uu601 uu603 uu1 uu604) hd_X5_isTwofold rfl ⟨rfl, rfl⟩ ⟨Nat.le_of_ble_eq_true rfl, Nat.le_of_ble_eq_true rfl⟩ ⟨Nat.le_of_ble_eq_true rfl, Nat.le_of_ble_eq_true rfl⟩ rfl (Nat.le_of_ble_eq_true rfl) rfl dX5_worst_15 ?_
    refine s_if_ne C 28 21 rfl dX5_worst_18 rfl (fun hc11 => ?_) (fun hc11 => ?_)
    · replace hf := ite_f hc11 hf
      refine s_aload_n C 29 0 rfl dX5_worst_28 rfl ?_
      refine s_iload_n C 30 1 rfl dX5_worst_29 rfl ?_
      refine s_aload_n C 31 0 rfl dX5_worst_30 rfl ?_
      refine s_iload_n C 32 1 rfl dX5_worst_31 rfl ?_
      refine s_aload_n C 33 0 rfl dX5_worst_32 rfl ?_
      refine s_get (C1 := RX5) (T := TX5) (N := 11) (ci := 4) C 36 0 0 uX5 rfl rfl (Nat.le_of_ble_eq_true rfl) uu130 rfl rfl rfl dX5_worst_33 ?_
      refine s_get (C1 := RX0) (T := TX0) (N := 5) (ci := 0) C 39 1 3 uX0 rfl rfl (Nat.le_of_ble_eq_true rfl) uu53 rfl rfl rfl dX5_worst_36 ?_
      refine s_iconst C 40 rfl dX5_worst_39 ic_m1 ?_
      obtain ⟨r5, q6, hf⟩ := bn_s hf
      refine s_callW (T := TX5) (N := 11) (ci := 4) (q0 := 0) (rest := [.int a1, .ref (ad 0)]) C 43 (c_X5_furthestBite l D cI adK adV ad kc tolds hasImage n_heirs n_left n_bitten n_kinds n_figures k_heirs k_left k_bitten k_kinds k_figures t_heirs t_left t_bitten t_kinds t_figures r_gone r_heaps r_fewestCells r_deed c_ways c_fewest c_nextWays c_nextFewest x_length x_letters told refusals ends a1 n_left (-1 : Int32) r5 q6) (gV uu794 uu796 uu1560 uu1 uu797) hd_X5_furthestBite rfl ⟨rfl, rfl⟩ ⟨Nat.le_of_ble_eq_true rfl, Nat.le_of_ble_eq_true rfl⟩ ⟨Nat.le_of_ble_eq_true rfl, Nat.le_of_ble_eq_true rfl⟩ rfl rfl rfl (Nat.le_of_ble_eq_true rfl) rfl dX5_worst_40 (fun _ => ?_)
      refine s_iload_n C 44 2 rfl dX5_worst_43 rfl ?_
      obtain ⟨r7, q8, hf⟩ := bn_s hf
      refine s_callW (T := TX5) (N := 11) (ci := 4) (q0 := 0) (rest := []) C 47 (c_X5_toldBite l D cI adK adV ad kc tolds hasImage n_heirs n_left n_bitten n_kinds n_figures k_heirs k_left k_bitten k_kinds k_figures t_heirs t_left t_bitten t_kinds t_figures r5.2.1 r5.2.2.1 r5.2.2.2.1 r5.2.2.2.2 c_ways c_fewest c_nextWays c_nextFewest x_length x_letters told refusals ends a1 r5.1 a2 r7 q8) (gV uu799 uu801 uu1561 uu1 uu802) hd_X5_toldBite rfl ⟨rfl, rfl⟩ ⟨Nat.le_of_ble_eq_true rfl, Nat.le_of_ble_eq_true rfl⟩ ⟨Nat.le_of_ble_eq_true rfl, Nat.le_of_ble_eq_true rfl⟩ rfl rfl rfl (Nat.le_of_ble_eq_true rfl) rfl dX5_worst_44 (fun _ => ?_)
      obtain rfl := Option.some.inj hf
      exact s_iret C kc hr hlk rfl rfl dX5_worst_47
    · replace hf := ite_t hc11 hf
      refine s_aload_n C 22 0 rfl dX5_worst_21 rfl ?_
      refine s_bipush C 24 rfl dX5_worst_22 bp_m2 ?_
      obtain ⟨r9, q10, hf⟩ := bn_s hf
      refine s_callW (T := TX5) (N := 11) (ci := 4) (q0 := 0) (rest := []) C 27 (c_X5_refused l D cI adK adV ad kc tolds hasImage n_heirs n_left n_bitten n_kinds n_figures k_heirs k_left k_bitten k_kinds k_figures t_heirs t_left t_bitten t_kinds t_figures r_gone r_heaps r_fewestCells r_deed c_ways c_fewest c_nextWays c_nextFewest x_length x_letters told refusals ends (-2 : Int32) r9 q10) (gV uu169 uu171 uu1541 uu1 uu172) hd_X5_refused rfl ⟨rfl, rfl⟩ ⟨Nat.le_of_ble_eq_true rfl, Nat.le_of_ble_eq_true rfl⟩ ⟨Nat.le_of_ble_eq_true rfl, Nat.le_of_ble_eq_true rfl⟩ rfl rfl rfl (Nat.le_of_ble_eq_true rfl) rfl dX5_worst_24 (fun _ => ?_)
      obtain rfl := Option.some.inj hf
      exact s_iret C kc hr hlk rfl rfl dX5_worst_27
  · replace hf := ite_t hc14 hf
    refine s_aload_n C 9 0 rfl dX5_worst_8 rfl ?_
    refine s_iconst C 10 rfl dX5_worst_9 ic_m1 ?_
    obtain ⟨r12, q13, hf⟩ := bn_s hf
    refine s_callW (T := TX5) (N := 11) (ci := 4) (q0 := 0) (rest := []) C 13 (c_X5_refused l D cI adK adV ad kc tolds hasImage n_heirs n_left n_bitten n_kinds n_figures k_heirs k_left k_bitten k_kinds k_figures t_heirs t_left t_bitten t_kinds t_figures r_gone r_heaps r_fewestCells r_deed c_ways c_fewest c_nextWays c_nextFewest x_length x_letters told refusals ends (-1 : Int32) r12 q13) (gV uu169 uu171 uu1541 uu1 uu172) hd_X5_refused rfl ⟨rfl, rfl⟩ ⟨Nat.le_of_ble_eq_true rfl, Nat.le_of_ble_eq_true rfl⟩ ⟨Nat.le_of_ble_eq_true rfl, Nat.le_of_ble_eq_true rfl⟩ rfl rfl rfl (Nat.le_of_ble_eq_true rfl) rfl dX5_worst_10 (fun _ => ?_)
    obtain rfl := Option.some.inj hf
    exact s_iret C kc hr hlk rfl rfl dX5_worst_13


theorem hd_X5_fewest : yX5_fewest.cls = RX5 ∧ yX5_fewest.cls ≠ "java/lang/invoke/MethodHandle" ∧ yX5_fewest.cls ≠ "java/lang/invoke/VarHandle" ∧ (parseMethodDescriptor yX5_fewest.desc).map (fun d => d.parameters.length) = some 3 := by decide +kernel
set_option maxHeartbeats 4000000 in
set_option maxRecDepth 100000 in
theorem c_X5_fewest (l : Launch) (D : va_G) (cI : ClassId) (adK adV : Nat → Nat) (ad : Nat → Nat) (kc : Nat → Nat) (tolds : Int32) (hasImage : Int32) (n_heirs : Int32) (n_left : Int32) (n_bitten : Int32) (n_kinds : (Nat → Int32)) (n_figures : (Nat → Int32)) (k_heirs : Int32) (k_left : Int32) (k_bitten : Int32) (k_kinds : (Nat → Int32)) (k_figures : (Nat → Int32)) (t_heirs : Int32) (t_left : Int32) (t_bitten : Int32) (t_kinds : (Nat → Int32)) (t_figures : (Nat → Int32)) (r_gone : Int32) (r_heaps : Int32) (r_fewestCells : Int32) (r_deed : Int32) (c_ways : (Nat → Int32)) (c_fewest : (Nat → Int32)) (c_nextWays : (Nat → Int32)) (c_nextFewest : (Nat → Int32)) (x_length : Int32) (x_letters : (Nat → Int32)) (told : (Nat → Int32)) (refusals : (Nat → Int32)) (ends : (Nat → Int32)) (a1 : Int32) (a2 : Int32) (a3 : Int32) (o : Int32 × Int32 × Int32 × Int32 × Int32 × (Nat → Int32)) (hf : f_X5_fewest n_heirs n_left n_kinds n_figures r_gone r_heaps r_fewestCells r_deed refusals a1 a2 a3 = some o) : Ct l D cI adK adV yX5_fewest (wy yX5_fewest cX5_fewest 6 (some .int)) { frames := 6, cells := 0, slots := 0, locals := 143 } 0 0 [.ref (ad 0), .int a1, .int a2, .int a3] (wX ad kc cI tolds hasImage n_heirs n_left n_bitten n_kinds n_figures k_heirs k_left k_bitten k_kinds k_figures t_heirs t_left t_bitten t_kinds t_figures r_gone r_heaps r_fewestCells r_deed c_ways c_fewest c_nextWays c_nextFewest x_length x_letters told refusals ends) (fun _ => (wX ad kc cI tolds hasImage n_heirs n_left n_bitten n_kinds n_figures k_heirs k_left k_bitten k_kinds k_figures t_heirs t_left t_bitten t_kinds t_figures o.2.1 o.2.2.1 o.2.2.2.1 o.2.2.2.2.1 c_ways c_fewest c_nextWays c_nextFewest x_length x_letters told o.2.2.2.2.2 ends)) (some (.int o.1)) := by
  refine Ct.of (cc := cX5_fewest) (nL := 6) (ret := (some .int)) (own := RX5) (by decide) (Nat.le_of_ble_eq_true rfl) rfl ?_
  intro p e s m args below meth c A C hr hlk hnm
  refine s_lv (lv1 := [(0, .ref (ad 0)), (1, .int a1), (2, .int a2), (3, .int a3)]) [0, 1, 2, 3] rfl ?_
  unfold f_X5_fewest at hf
  refine s_aload_n C 1 0 rfl dX5_fewest_0 rfl ?_
  refine s_iload_n C 2 1 rfl dX5_fewest_1 rfl ?_
  obtain ⟨r1, q2, hf⟩ := bn_s hf
  refine s_callW (T := TX5) (N := 11) (ci := 4) (q0 := 0) (rest := []) C 5 (c_X5_isHeir l D cI adK adV ad kc tolds hasImage n_heirs n_left n_bitten n_kinds n_figures k_heirs k_left k_bitten k_kinds k_figures t_heirs t_left t_bitten t_kinds t_figures r_gone r_heaps r_fewestCells r_deed c_ways c_fewest c_nextWays c_nextFewest x_length x_letters told refusals ends a1 r1 q2) (gV uu511 uu513 uu1547 uu1 uu514) hd_X5_isHeir rfl ⟨rfl, rfl⟩ ⟨Nat.le_of_ble_eq_true rfl, Nat.le_of_ble_eq_true rfl⟩ ⟨Nat.le_of_ble_eq_true rfl, Nat.le_of_ble_eq_true rfl⟩ rfl rfl rfl (Nat.le_of_ble_eq_true rfl) rfl dX5_fewest_2 (fun _ => ?_)
  refine s_if_ne C 14 8 rfl dX5_fewest_5 rfl (fun hc32 => ?_) (fun hc32 => ?_)
  · replace hf := ite_f hc32 hf
    refine s_iload_n C 15 2 rfl dX5_fewest_14 rfl ?_
    refine s_if_ge C 25 18 rfl dX5_fewest_15 rfl (fun hc29 => ?_) (fun hc29 => ?_)
    · replace hf := ite_t hc29 hf
      refine s_iload_n C 26 2 rfl dX5_fewest_25 rfl ?_
      refine s_bipush C 28 rfl dX5_fewest_26 bp_40 ?_
      refine s_icmp_le C 38 31 rfl dX5_fewest_28 rfl (fun hc26 => ?_) (fun hc26 => ?_)
      · replace hf := ite_t hc26 hf
        refine s_iload_n C 39 3 rfl dX5_fewest_38 rfl ?_
        obtain ⟨r3, q4, hf⟩ := bn_s hf
        refine s_callS0 (host := "") (rest := []) C 42 (c_X5_isTwofold l D cI adK adV a3 r3 q4) (gS uu601 uu603 uu1 uu604) hd_X5_isTwofold rfl ⟨rfl, rfl⟩ ⟨Nat.le_of_ble_eq_true rfl, Nat.le_of_ble_eq_true rfl⟩ ⟨Nat.le_of_ble_eq_true rfl, Nat.le_of_ble_eq_true rfl⟩ rfl (Nat.le_of_ble_eq_true rfl) rfl dX5_fewest_39 ?_
        refine s_if_ne C 52 45 rfl dX5_fewest_42 rfl (fun hc23 => ?_) (fun hc23 => ?_)
        · replace hf := ite_f hc23 hf
          refine s_aload_n C 53 0 rfl dX5_fewest_52 rfl ?_
          refine s_iload_n C 54 1 rfl dX5_fewest_53 rfl ?_
          refine s_aload_n C 55 0 rfl dX5_fewest_54 rfl ?_
          refine s_get (C1 := RX5) (T := TX5) (N := 11) (ci := 4) C 58 0 0 uX5 rfl rfl (Nat.le_of_ble_eq_true rfl) uu130 rfl rfl rfl dX5_fewest_55 ?_
          refine s_get (C1 := RX0) (T := TX0) (N := 5) (ci := 0) C 61 1 3 uX0 rfl rfl (Nat.le_of_ble_eq_true rfl) uu53 rfl rfl rfl dX5_fewest_58 ?_
          obtain ⟨r5, q6, hf⟩ := bn_s hf
          refine s_callW (T := TX5) (N := 11) (ci := 4) (q0 := 0) (rest := []) C 64 (c_X5_shareOf l D cI adK adV ad kc tolds hasImage n_heirs n_left n_bitten n_kinds n_figures k_heirs k_left k_bitten k_kinds k_figures t_heirs t_left t_bitten t_kinds t_figures r_gone r_heaps r_fewestCells r_deed c_ways c_fewest c_nextWays c_nextFewest x_length x_letters told refusals ends a1 n_left r5 q6) (gV uu516 uu518 uu1548 uu1 uu519) hd_X5_shareOf rfl ⟨rfl, rfl⟩ ⟨Nat.le_of_ble_eq_true rfl, Nat.le_of_ble_eq_true rfl⟩ ⟨Nat.le_of_ble_eq_true rfl, Nat.le_of_ble_eq_true rfl⟩ rfl rfl rfl (Nat.le_of_ble_eq_true rfl) rfl dX5_fewest_61 (fun _ => ?_)
          refine s_iload_n C 65 2 rfl dX5_fewest_64 rfl ?_
          refine s_icmp_lt C 79 68 rfl dX5_fewest_65 rfl (fun hc20 => ?_) (fun hc20 => ?_)
          · replace hf := ite_t hc20 hf
            refine s_aload_n C 80 0 rfl dX5_fewest_79 rfl ?_
            refine s_iload_n C 81 1 rfl dX5_fewest_80 rfl ?_
            refine s_iload_n C 82 2 rfl dX5_fewest_81 rfl ?_
            refine s_aload_n C 83 0 rfl dX5_fewest_82 rfl ?_
            refine s_get (C1 := RX5) (T := TX5) (N := 11) (ci := 4) C 86 0 0 uX5 rfl rfl (Nat.le_of_ble_eq_true rfl) uu130 rfl rfl rfl dX5_fewest_83 ?_
            refine s_get (C1 := RX0) (T := TX0) (N := 5) (ci := 0) C 89 1 3 uX0 rfl rfl (Nat.le_of_ble_eq_true rfl) uu53 rfl rfl rfl dX5_fewest_86 ?_
            refine s_iconst C 90 rfl dX5_fewest_89 ic_0 ?_
            obtain ⟨r7, q8, hf⟩ := bn_s hf
            refine s_callW (T := TX5) (N := 11) (ci := 4) (q0 := 0) (rest := []) C 93 (c_X5_firstBiteTo l D cI adK adV ad kc tolds hasImage n_heirs n_left n_bitten n_kinds n_figures k_heirs k_left k_bitten k_kinds k_figures t_heirs t_left t_bitten t_kinds t_figures r5.2.1 r5.2.2.1 r5.2.2.2.1 r5.2.2.2.2 c_ways c_fewest c_nextWays c_nextFewest x_length x_letters told refusals ends a1 a2 n_left (0 : Int32) r7 q8) (gV uu821 uu823 uu1562 uu1 uu824) hd_X5_firstBiteTo rfl ⟨rfl, rfl⟩ ⟨Nat.le_of_ble_eq_true rfl, Nat.le_of_ble_eq_true rfl⟩ ⟨Nat.le_of_ble_eq_true rfl, Nat.le_of_ble_eq_true rfl⟩ rfl rfl rfl (Nat.le_of_ble_eq_true rfl) rfl dX5_fewest_90 (fun _ => ?_)
            refine s_istore (lv1 := [(4, .int r7.1), (0, .ref (ad 0)), (1, .int a1), (2, .int a2), (3, .int a3)]) C 95 4 rfl dX5_fewest_93 (Nat.le_of_ble_eq_true rfl) rfl ?_
            refine s_iload C 97 0 rfl dX5_fewest_95 rfl ?_
            refine s_iconst C 98 rfl dX5_fewest_97 ic_m1 ?_
            refine s_icmp_eq C 115 101 rfl dX5_fewest_98 rfl (fun hc18 => ?_) (fun hc18 => ?_)
            · replace hf := ite_t hc18 hf
              refine s_aload_n C 116 1 rfl dX5_fewest_115 rfl ?_
              refine s_iload_n C 117 2 rfl dX5_fewest_116 rfl ?_
              refine s_iload_n C 118 3 rfl dX5_fewest_117 rfl ?_
              obtain ⟨r9, q10, hf⟩ := bn_s hf
              refine s_callW (T := TX5) (N := 11) (ci := 4) (q0 := 0) (rest := []) C 121 (c_X5_firstOfTwoBitesTo l D cI adK adV ad kc tolds hasImage n_heirs n_left n_bitten n_kinds n_figures k_heirs k_left k_bitten k_kinds k_figures t_heirs t_left t_bitten t_kinds t_figures r7.2.1 r7.2.2.1 r7.2.2.2.1 r7.2.2.2.2 c_ways c_fewest c_nextWays c_nextFewest x_length x_letters told refusals ends a1 a2 r9 q10) (gV uu826 uu828 uu1563 uu1 uu829) hd_X5_firstOfTwoBitesTo rfl ⟨rfl, rfl⟩ ⟨Nat.le_of_ble_eq_true rfl, Nat.le_of_ble_eq_true rfl⟩ ⟨Nat.le_of_ble_eq_true rfl, Nat.le_of_ble_eq_true rfl⟩ rfl rfl rfl (Nat.le_of_ble_eq_true rfl) rfl dX5_fewest_118 (fun _ => ?_)
              refine s_istore (lv1 := [(5, .int r9.1), (4, .int r7.1), (0, .ref (ad 0)), (1, .int a1), (2, .int a2), (3, .int a3)]) C 123 5 rfl dX5_fewest_121 (Nat.le_of_ble_eq_true rfl) rfl ?_
              refine s_iload C 125 0 rfl dX5_fewest_123 rfl ?_
              refine s_iconst C 126 rfl dX5_fewest_125 ic_m1 ?_
              refine s_icmp_eq C 143 129 rfl dX5_fewest_126 rfl (fun hc14 => ?_) (fun hc14 => ?_)
              · replace hf := ite_t hc14 hf
                refine s_bipush C 145 rfl dX5_fewest_143 bp_m9 ?_
                obtain rfl := Option.some.inj hf
                exact s_iret C kc hr hlk rfl rfl dX5_fewest_145
              · replace hf := ite_f hc14 hf
                refine s_iload_n C 130 5 rfl dX5_fewest_129 rfl ?_
                refine s_if_ne C 137 133 rfl dX5_fewest_130 rfl (fun hc13 => ?_) (fun hc13 => ?_)
                · replace hf := ite_f hc13 hf
                  refine s_iload C 139 0 rfl dX5_fewest_137 rfl ?_
                  obtain ⟨r11, q12, hf⟩ := bn_s hf
                  refine s_callS0 (host := "") (rest := []) C 142 (c_X5_bitesName l D cI adK adV r9.1 r11 q12) (gS uu804 uu806 uu1 uu807) hd_X5_bitesName rfl ⟨rfl, rfl⟩ ⟨Nat.le_of_ble_eq_true rfl, Nat.le_of_ble_eq_true rfl⟩ ⟨Nat.le_of_ble_eq_true rfl, Nat.le_of_ble_eq_true rfl⟩ rfl (Nat.le_of_ble_eq_true rfl) rfl dX5_fewest_139 ?_
                  obtain rfl := Option.some.inj hf
                  exact s_iret C kc hr hlk rfl rfl dX5_fewest_142
                · replace hf := ite_t hc13 hf
                  refine s_iconst C 134 rfl dX5_fewest_133 ic_2 ?_
                  refine s_goto C 142 dX5_fewest_134 rfl ?_
                  obtain rfl := Option.some.inj hf
                  exact s_iret C kc hr hlk rfl rfl dX5_fewest_142
            · replace hf := ite_f hc18 hf
              refine s_iload_n C 102 4 rfl dX5_fewest_101 rfl ?_
              refine s_if_ne C 109 105 rfl dX5_fewest_102 rfl (fun hc17 => ?_) (fun hc17 => ?_)
              · replace hf := ite_f hc17 hf
                refine s_iload C 111 0 rfl dX5_fewest_109 rfl ?_
                obtain ⟨r15, q16, hf⟩ := bn_s hf
                refine s_callS0 (host := "") (rest := []) C 114 (c_X5_bitesName l D cI adK adV r7.1 r15 q16) (gS uu804 uu806 uu1 uu807) hd_X5_bitesName rfl ⟨rfl, rfl⟩ ⟨Nat.le_of_ble_eq_true rfl, Nat.le_of_ble_eq_true rfl⟩ ⟨Nat.le_of_ble_eq_true rfl, Nat.le_of_ble_eq_true rfl⟩ rfl (Nat.le_of_ble_eq_true rfl) rfl dX5_fewest_111 ?_
                obtain rfl := Option.some.inj hf
                exact s_iret C kc hr hlk rfl rfl dX5_fewest_114
              · replace hf := ite_t hc17 hf
                refine s_iconst C 106 rfl dX5_fewest_105 ic_1 ?_
                refine s_goto C 114 dX5_fewest_106 rfl ?_
                obtain rfl := Option.some.inj hf
                exact s_iret C kc hr hlk rfl rfl dX5_fewest_114
          · replace hf := ite_f hc20 hf
            refine s_iload_n C 69 3 rfl dX5_fewest_68 rfl ?_
            refine s_if_ne C 76 72 rfl dX5_fewest_69 rfl (fun hc19 => ?_) (fun hc19 => ?_)
            · replace hf := ite_f hc19 hf
              refine s_bipush C 78 rfl dX5_fewest_76 bp_m9 ?_
              obtain rfl := Option.some.inj hf
              exact s_iret C kc hr hlk rfl rfl dX5_fewest_78
            · replace hf := ite_t hc19 hf
              refine s_iconst C 73 rfl dX5_fewest_72 ic_0 ?_
              refine s_goto C 78 dX5_fewest_73 rfl ?_
              obtain rfl := Option.some.inj hf
              exact s_iret C kc hr hlk rfl rfl dX5_fewest_78
        · replace hf := ite_t hc23 hf
          refine s_aload_n C 46 0 rfl dX5_fewest_45 rfl ?_
          refine s_bipush C 48 rfl dX5_fewest_46 bp_m2 ?_
          obtain ⟨r21, q22, hf⟩ := bn_s hf
          refine s_callW (T := TX5) (N := 11) (ci := 4) (q0 := 0) (rest := []) C 51 (c_X5_refused l D cI adK adV ad kc tolds hasImage n_heirs n_left n_bitten n_kinds n_figures k_heirs k_left k_bitten k_kinds k_figures t_heirs t_left t_bitten t_kinds t_figures r_gone r_heaps r_fewestCells r_deed c_ways c_fewest c_nextWays c_nextFewest x_length x_letters told refusals ends (-2 : Int32) r21 q22) (gV uu169 uu171 uu1541 uu1 uu172) hd_X5_refused rfl ⟨rfl, rfl⟩ ⟨Nat.le_of_ble_eq_true rfl, Nat.le_of_ble_eq_true rfl⟩ ⟨Nat.le_of_ble_eq_true rfl, Nat.le_of_ble_eq_true rfl⟩ rfl rfl rfl (Nat.le_of_ble_eq_true rfl) rfl dX5_fewest_48 (fun _ => ?_)
          obtain rfl := Option.some.inj hf
          exact s_iret C kc hr hlk rfl rfl dX5_fewest_51
      · replace hf := ite_f hc26 hf
        refine s_aload_n C 32 0 rfl dX5_fewest_31 rfl ?_
        refine s_bipush C 34 rfl dX5_fewest_32 bp_m6 ?_
        obtain ⟨r24, q25, hf⟩ := bn_s hf
        refine s_callW (T := TX5) (N := 11) (ci := 4) (q0 := 0) (rest := []) C 37 (c_X5_refused l D cI adK adV ad kc tolds hasImage n_heirs n_left n_bitten n_kinds n_figures k_heirs k_left k_bitten k_kinds k_figures t_heirs t_left t_bitten t_kinds t_figures r_gone r_heaps r_fewestCells r_deed c_ways c_fewest c_nextWays c_nextFewest x_length x_letters told refusals ends (-6 : Int32) r24 q25) (gV uu169 uu171 uu1541 uu1 uu172) hd_X5_refused rfl ⟨rfl, rfl⟩ ⟨Nat.le_of_ble_eq_true rfl, Nat.le_of_ble_eq_true rfl⟩ ⟨Nat.le_of_ble_eq_true rfl, Nat.le_of_ble_eq_true rfl⟩ rfl rfl rfl (Nat.le_of_ble_eq_true rfl) rfl dX5_fewest_34 (fun _ => ?_)
        obtain rfl := Option.some.inj hf
        exact s_iret C kc hr hlk rfl rfl dX5_fewest_37
    · replace hf := ite_f hc29 hf
      refine s_aload_n C 19 0 rfl dX5_fewest_18 rfl ?_
      refine s_bipush C 21 rfl dX5_fewest_19 bp_m4 ?_
      obtain ⟨r27, q28, hf⟩ := bn_s hf
      refine s_callW (T := TX5) (N := 11) (ci := 4) (q0 := 0) (rest := []) C 24 (c_X5_refused l D cI adK adV ad kc tolds hasImage n_heirs n_left n_bitten n_kinds n_figures k_heirs k_left k_bitten k_kinds k_figures t_heirs t_left t_bitten t_kinds t_figures r_gone r_heaps r_fewestCells r_deed c_ways c_fewest c_nextWays c_nextFewest x_length x_letters told refusals ends (-4 : Int32) r27 q28) (gV uu169 uu171 uu1541 uu1 uu172) hd_X5_refused rfl ⟨rfl, rfl⟩ ⟨Nat.le_of_ble_eq_true rfl, Nat.le_of_ble_eq_true rfl⟩ ⟨Nat.le_of_ble_eq_true rfl, Nat.le_of_ble_eq_true rfl⟩ rfl rfl rfl (Nat.le_of_ble_eq_true rfl) rfl dX5_fewest_21 (fun _ => ?_)
      obtain rfl := Option.some.inj hf
      exact s_iret C kc hr hlk rfl rfl dX5_fewest_24
  · replace hf := ite_t hc32 hf
    refine s_aload_n C 9 0 rfl dX5_fewest_8 rfl ?_
    refine s_iconst C 10 rfl dX5_fewest_9 ic_m1 ?_
    obtain ⟨r30, q31, hf⟩ := bn_s hf
    refine s_callW (T := TX5) (N := 11) (ci := 4) (q0 := 0) (rest := []) C 13 (c_X5_refused l D cI adK adV ad kc tolds hasImage n_heirs n_left n_bitten n_kinds n_figures k_heirs k_left k_bitten k_kinds k_figures t_heirs t_left t_bitten t_kinds t_figures r_gone r_heaps r_fewestCells r_deed c_ways c_fewest c_nextWays c_nextFewest x_length x_letters told refusals ends (-1 : Int32) r30 q31) (gV uu169 uu171 uu1541 uu1 uu172) hd_X5_refused rfl ⟨rfl, rfl⟩ ⟨Nat.le_of_ble_eq_true rfl, Nat.le_of_ble_eq_true rfl⟩ ⟨Nat.le_of_ble_eq_true rfl, Nat.le_of_ble_eq_true rfl⟩ rfl rfl rfl (Nat.le_of_ble_eq_true rfl) rfl dX5_fewest_10 (fun _ => ?_)
    obtain rfl := Option.some.inj hf
    exact s_iret C kc hr hlk rfl rfl dX5_fewest_13


theorem hd_X5_safe : yX5_safe.cls = RX5 ∧ yX5_safe.cls ≠ "java/lang/invoke/MethodHandle" ∧ yX5_safe.cls ≠ "java/lang/invoke/VarHandle" ∧ (parseMethodDescriptor yX5_safe.desc).map (fun d => d.parameters.length) = some 0 := by decide +kernel
set_option maxHeartbeats 4000000 in
set_option maxRecDepth 100000 in
theorem c_X5_safe (l : Launch) (D : va_G) (cI : ClassId) (adK adV : Nat → Nat) (ad : Nat → Nat) (kc : Nat → Nat) (tolds : Int32) (hasImage : Int32) (n_heirs : Int32) (n_left : Int32) (n_bitten : Int32) (n_kinds : (Nat → Int32)) (n_figures : (Nat → Int32)) (k_heirs : Int32) (k_left : Int32) (k_bitten : Int32) (k_kinds : (Nat → Int32)) (k_figures : (Nat → Int32)) (t_heirs : Int32) (t_left : Int32) (t_bitten : Int32) (t_kinds : (Nat → Int32)) (t_figures : (Nat → Int32)) (r_gone : Int32) (r_heaps : Int32) (r_fewestCells : Int32) (r_deed : Int32) (c_ways : (Nat → Int32)) (c_fewest : (Nat → Int32)) (c_nextWays : (Nat → Int32)) (c_nextFewest : (Nat → Int32)) (x_length : Int32) (x_letters : (Nat → Int32)) (told : (Nat → Int32)) (refusals : (Nat → Int32)) (ends : (Nat → Int32))  (o : Int32 × Int32 × Int32 × Int32 × Int32) (hf : f_X5_safe n_heirs n_left n_kinds n_figures r_gone r_heaps r_fewestCells r_deed = some o) : Ct l D cI adK adV yX5_safe (wy yX5_safe cX5_safe 4 (some .int)) { frames := 5, cells := 0, slots := 0, locals := 115 } 0 0 [.ref (ad 0)] (wX ad kc cI tolds hasImage n_heirs n_left n_bitten n_kinds n_figures k_heirs k_left k_bitten k_kinds k_figures t_heirs t_left t_bitten t_kinds t_figures r_gone r_heaps r_fewestCells r_deed c_ways c_fewest c_nextWays c_nextFewest x_length x_letters told refusals ends) (fun _ => (wX ad kc cI tolds hasImage n_heirs n_left n_bitten n_kinds n_figures k_heirs k_left k_bitten k_kinds k_figures t_heirs t_left t_bitten t_kinds t_figures o.2.1 o.2.2.1 o.2.2.2.1 o.2.2.2.2 c_ways c_fewest c_nextWays c_nextFewest x_length x_letters told refusals ends)) (some (.int o.1)) := by
  refine Ct.of (cc := cX5_safe) (nL := 4) (ret := (some .int)) (own := RX5) (by decide) (Nat.le_of_ble_eq_true rfl) rfl ?_
  intro p e s m args below meth c A C hr hlk hnm
  refine s_lv (lv1 := [(0, .ref (ad 0))]) [0] rfl ?_
  unfold f_X5_safe at hf
  refine s_iconst C 1 rfl dX5_safe_0 ic_0 ?_
  refine s_istore_n (lv1 := [(1, .int (0 : Int32)), (0, .ref (ad 0))]) C 2 1 rfl dX5_safe_1 rfl (Nat.le_of_ble_eq_true rfl) rfl ?_
  refine s_iconst C 3 rfl dX5_safe_2 ic_0 ?_
  refine s_istore_n (lv1 := [(2, .int (0 : Int32)), (1, .int (0 : Int32)), (0, .ref (ad 0))]) C 4 2 rfl dX5_safe_3 rfl (Nat.le_of_ble_eq_true rfl) rfl ?_
  refine s_lv (lv1 := [(0, .ref (ad 0)), (1, .int (0 : Int32)), (2, .int (0 : Int32))]) [2, 1, 0] rfl ?_
  refine s_loop (α := Int32 × Int32 × Int32 × Int32 × Int32 × Int32) (fun n v9 => f_X5_safe_4 n_heirs n_left n_kinds n_figures n v9.1 v9.2.1 v9.2.2.1 v9.2.2.2.1 v9.2.2.2.2.1 v9.2.2.2.2.2) 4 (fun v9 => [(0, .ref (ad 0)), (1, .int v9.1), (2, .int v9.2.1)]) (fun v9 => (wX ad kc cI tolds hasImage n_heirs n_left n_bitten n_kinds n_figures k_heirs k_left k_bitten k_kinds k_figures t_heirs t_left t_bitten t_kinds t_figures v9.2.2.1 v9.2.2.2.1 v9.2.2.2.2.1 v9.2.2.2.2.2 c_ways c_fewest c_nextWays c_nextFewest x_length x_letters told refusals ends)) 1000 ((0 : Int32), (0 : Int32), r_gone, r_heaps, r_fewestCells, r_deed) hf (fun v9 hf => by simp only [f_X5_safe_4] at hf; exact absurd hf (by simp)) (fun n ih10 v9 hf => ?_)
  replace hf := (f_X5_safe_4_s _ _ _ _ _ _ _ _ _ _ _).symm.trans hf
  refine s_iload_n C 5 2 rfl dX5_safe_4 rfl ?_
  refine s_bipush C 7 rfl dX5_safe_5 bp_100 ?_
  refine s_icmp_ge C 50 10 rfl dX5_safe_7 rfl (fun hc18 => ?_) (fun hc18 => ?_)
  · replace hf := ite_t hc18 hf
    refine s_iload_n C 51 1 rfl dX5_safe_50 rfl ?_
    obtain rfl := Option.some.inj hf
    exact s_iret C kc hr hlk rfl rfl dX5_safe_51
  · replace hf := ite_f hc18 hf
    refine s_iload_n C 11 2 rfl dX5_safe_10 rfl ?_
    refine s_aload_n C 12 0 rfl dX5_safe_11 rfl ?_
    refine s_get (C1 := RX5) (T := TX5) (N := 11) (ci := 4) C 15 0 0 uX5 rfl rfl (Nat.le_of_ble_eq_true rfl) uu130 rfl rfl rfl dX5_safe_12 ?_
    refine s_get (C1 := RX0) (T := TX0) (N := 5) (ci := 0) C 18 1 3 uX0 rfl rfl (Nat.le_of_ble_eq_true rfl) uu53 rfl rfl rfl dX5_safe_15 ?_
    obtain ⟨r11, q12, hf⟩ := bn_s hf
    refine s_callS0 (host := "") (rest := []) C 21 (c_X2_behind l D cI adK adV v9.2.1 n_left r11 q12) (gS uu657 uu659 uu14 uu660) hd_X2_behind rfl ⟨rfl, rfl⟩ ⟨Nat.le_of_ble_eq_true rfl, Nat.le_of_ble_eq_true rfl⟩ ⟨Nat.le_of_ble_eq_true rfl, Nat.le_of_ble_eq_true rfl⟩ rfl (Nat.le_of_ble_eq_true rfl) rfl dX5_safe_18 ?_
    refine s_istore_n (lv1 := [(3, .int r11), (0, .ref (ad 0)), (1, .int v9.1), (2, .int v9.2.1)]) C 22 3 rfl dX5_safe_21 rfl (Nat.le_of_ble_eq_true rfl) rfl ?_
    refine s_iload_n C 23 0 rfl dX5_safe_22 rfl ?_
    refine s_aload_n C 24 1 rfl dX5_safe_23 rfl ?_
    refine s_get (C1 := RX5) (T := TX5) (N := 11) (ci := 4) C 27 0 0 uX5 rfl rfl (Nat.le_of_ble_eq_true rfl) uu130 rfl rfl rfl dX5_safe_24 ?_
    refine s_get (C1 := RX0) (T := TX0) (N := 5) (ci := 0) C 30 1 3 uX0 rfl rfl (Nat.le_of_ble_eq_true rfl) uu53 rfl rfl rfl dX5_safe_27 ?_
    refine s_bn (α := Int32 × Int32 × Int32 × Int32 × Int32) 44 (fun j13 => [(0, .ref (ad 0)), (1, .int j13.1), (2, .int v9.2.1)]) (fun j13 => []) (fun j13 => (wX ad kc cI tolds hasImage n_heirs n_left n_bitten n_kinds n_figures k_heirs k_left k_bitten k_kinds k_figures t_heirs t_left t_bitten t_kinds t_figures j13.2.2.2.1 j13.2.2.2.2 j13.2.2.1 j13.2.1 c_ways c_fewest c_nextWays c_nextFewest x_length x_letters told refusals ends)) hf (fun j13 hf => ?_) (fun hj hf => ?_)
    · refine s_iinc (lv1 := [(2, .int (v9.2.1 + (1 : Int32))), (0, .ref (ad 0)), (1, .int j13.1)]) C 47 2 2 rfl dX5_safe_44 rfl ic_1 (Nat.le_of_ble_eq_true rfl) rfl ?_
      refine s_goto C 4 dX5_safe_47 rfl ?_
      exact s_lv [1, 2, 0] rfl (ih10 ((j13.1, v9.2.1 + (1 : Int32), j13.2.2.2.1, j13.2.2.2.2, j13.2.2.1, j13.2.1) : Int32 × Int32 × Int32 × Int32 × Int32 × Int32) hf)
    · refine s_icmp_eq C 44 33 rfl dX5_safe_30 rfl (fun hc17 => ?_) (fun hc17 => ?_)
      · replace hf := bn_t hc17 hf
        replace hf := bn_i hf
        exact s_lv [1, 2, 3] rfl (hj ((v9.1, v9.2.2.2.2.2, v9.2.2.2.2.1, v9.2.2.1, v9.2.2.2.1) : Int32 × Int32 × Int32 × Int32 × Int32) hf)
      · replace hf := bn_f hc17 hf
        refine s_aload_n C 34 1 rfl dX5_safe_33 rfl ?_
        refine s_iload_n C 35 0 rfl dX5_safe_34 rfl ?_
        obtain ⟨r14, q15, hf⟩ := bn_b hf
        refine s_callW (T := TX5) (N := 11) (ci := 4) (q0 := 0) (rest := []) C 38 (c_X5_changesNobody l D cI adK adV ad kc tolds hasImage n_heirs n_left n_bitten n_kinds n_figures k_heirs k_left k_bitten k_kinds k_figures t_heirs t_left t_bitten t_kinds t_figures v9.2.2.1 v9.2.2.2.1 v9.2.2.2.2.1 v9.2.2.2.2.2 c_ways c_fewest c_nextWays c_nextFewest x_length x_letters told refusals ends r11 r14 q15) (gV uu837 uu839 uu1564 uu1 uu840) hd_X5_changesNobody rfl ⟨rfl, rfl⟩ ⟨Nat.le_of_ble_eq_true rfl, Nat.le_of_ble_eq_true rfl⟩ ⟨Nat.le_of_ble_eq_true rfl, Nat.le_of_ble_eq_true rfl⟩ rfl rfl rfl (Nat.le_of_ble_eq_true rfl) rfl dX5_safe_35 (fun _ => ?_)
        refine s_if_eq C 44 41 rfl dX5_safe_38 rfl (fun hc16 => ?_) (fun hc16 => ?_)
        · replace hf := bn_t hc16 hf
          replace hf := bn_i hf
          exact s_lv [1, 2, 3] rfl (hj ((v9.1, r14.2.2.2.2, r14.2.2.2.1, r14.2.1, r14.2.2.1) : Int32 × Int32 × Int32 × Int32 × Int32) hf)
        · replace hf := bn_f hc16 hf
          refine s_iinc (lv1 := [(1, .int (v9.1 + (1 : Int32))), (3, .int r11), (0, .ref (ad 0)), (2, .int v9.2.1)]) C 44 1 2 rfl dX5_safe_41 rfl ic_1 (Nat.le_of_ble_eq_true rfl) rfl ?_
          replace hf := bn_i hf
          exact s_lv [2, 0, 3] rfl (hj ((v9.1 + (1 : Int32), r14.2.2.2.2, r14.2.2.2.1, r14.2.1, r14.2.2.1) : Int32 × Int32 × Int32 × Int32 × Int32) hf)


theorem hd_X5_grudge : yX5_grudge.cls = RX5 ∧ yX5_grudge.cls ≠ "java/lang/invoke/MethodHandle" ∧ yX5_grudge.cls ≠ "java/lang/invoke/VarHandle" ∧ (parseMethodDescriptor yX5_grudge.desc).map (fun d => d.parameters.length) = some 1 := by decide +kernel
set_option maxHeartbeats 4000000 in
set_option maxRecDepth 100000 in
theorem c_X5_grudge (l : Launch) (D : va_G) (cI : ClassId) (adK adV : Nat → Nat) (ad : Nat → Nat) (kc : Nat → Nat) (tolds : Int32) (hasImage : Int32) (n_heirs : Int32) (n_left : Int32) (n_bitten : Int32) (n_kinds : (Nat → Int32)) (n_figures : (Nat → Int32)) (k_heirs : Int32) (k_left : Int32) (k_bitten : Int32) (k_kinds : (Nat → Int32)) (k_figures : (Nat → Int32)) (t_heirs : Int32) (t_left : Int32) (t_bitten : Int32) (t_kinds : (Nat → Int32)) (t_figures : (Nat → Int32)) (r_gone : Int32) (r_heaps : Int32) (r_fewestCells : Int32) (r_deed : Int32) (c_ways : (Nat → Int32)) (c_fewest : (Nat → Int32)) (c_nextWays : (Nat → Int32)) (c_nextFewest : (Nat → Int32)) (x_length : Int32) (x_letters : (Nat → Int32)) (told : (Nat → Int32)) (refusals : (Nat → Int32)) (ends : (Nat → Int32)) (a1 : Int32) (o : Int32 × Int32 × Int32 × Int32 × Int32 × (Nat → Int32)) (hf : f_X5_grudge n_heirs n_left n_kinds n_figures r_gone r_heaps r_fewestCells r_deed refusals a1 = some o) : Ct l D cI adK adV yX5_grudge (wy yX5_grudge cX5_grudge 7 (some .int)) { frames := 5, cells := 0, slots := 0, locals := 121 } 0 0 [.ref (ad 0), .int a1] (wX ad kc cI tolds hasImage n_heirs n_left n_bitten n_kinds n_figures k_heirs k_left k_bitten k_kinds k_figures t_heirs t_left t_bitten t_kinds t_figures r_gone r_heaps r_fewestCells r_deed c_ways c_fewest c_nextWays c_nextFewest x_length x_letters told refusals ends) (fun _ => (wX ad kc cI tolds hasImage n_heirs n_left n_bitten n_kinds n_figures k_heirs k_left k_bitten k_kinds k_figures t_heirs t_left t_bitten t_kinds t_figures o.2.1 o.2.2.1 o.2.2.2.1 o.2.2.2.2.1 c_ways c_fewest c_nextWays c_nextFewest x_length x_letters told o.2.2.2.2.2 ends)) (some (.int o.1)) := by
  refine Ct.of (cc := cX5_grudge) (nL := 7) (ret := (some .int)) (own := RX5) (by decide) (Nat.le_of_ble_eq_true rfl) rfl ?_
  intro p e s m args below meth c A C hr hlk hnm
  refine s_lv (lv1 := [(0, .ref (ad 0)), (1, .int a1)]) [0, 1] rfl ?_
  unfold f_X5_grudge at hf
  refine s_aload_n C 1 0 rfl dX5_grudge_0 rfl ?_
  refine s_iload_n C 2 1 rfl dX5_grudge_1 rfl ?_
  obtain ⟨r1, q2, hf⟩ := bn_s hf
  refine s_callW (T := TX5) (N := 11) (ci := 4) (q0 := 0) (rest := []) C 5 (c_X5_isHeir l D cI adK adV ad kc tolds hasImage n_heirs n_left n_bitten n_kinds n_figures k_heirs k_left k_bitten k_kinds k_figures t_heirs t_left t_bitten t_kinds t_figures r_gone r_heaps r_fewestCells r_deed c_ways c_fewest c_nextWays c_nextFewest x_length x_letters told refusals ends a1 r1 q2) (gV uu511 uu513 uu1547 uu1 uu514) hd_X5_isHeir rfl ⟨rfl, rfl⟩ ⟨Nat.le_of_ble_eq_true rfl, Nat.le_of_ble_eq_true rfl⟩ ⟨Nat.le_of_ble_eq_true rfl, Nat.le_of_ble_eq_true rfl⟩ rfl rfl rfl (Nat.le_of_ble_eq_true rfl) rfl dX5_grudge_2 (fun _ => ?_)
  refine s_if_ne C 14 8 rfl dX5_grudge_5 rfl (fun hc31 => ?_) (fun hc31 => ?_)
  · replace hf := ite_f hc31 hf
    refine s_bipush C 16 rfl dX5_grudge_14 bp_m9 ?_
    refine s_istore_n (lv1 := [(2, .int (-9 : Int32)), (0, .ref (ad 0)), (1, .int a1)]) C 17 2 rfl dX5_grudge_16 rfl (Nat.le_of_ble_eq_true rfl) rfl ?_
    refine s_iconst C 18 rfl dX5_grudge_17 ic_0 ?_
    refine s_istore_n (lv1 := [(3, .int (0 : Int32)), (2, .int (-9 : Int32)), (0, .ref (ad 0)), (1, .int a1)]) C 19 3 rfl dX5_grudge_18 rfl (Nat.le_of_ble_eq_true rfl) rfl ?_
    refine s_iconst C 20 rfl dX5_grudge_19 ic_0 ?_
    refine s_istore (lv1 := [(4, .int (0 : Int32)), (3, .int (0 : Int32)), (2, .int (-9 : Int32)), (0, .ref (ad 0)), (1, .int a1)]) C 22 4 rfl dX5_grudge_20 (Nat.le_of_ble_eq_true rfl) rfl ?_
    refine s_lv (lv1 := [(0, .ref (ad 0)), (1, .int a1), (2, .int (-9 : Int32)), (3, .int (0 : Int32)), (4, .int (0 : Int32))]) [3, 4, 2, 1, 0] rfl ?_
    refine s_loop (α := Int32 × Int32 × Int32 × Int32 × Int32 × Int32 × Int32) (fun n v15 => f_X5_grudge_22 a1 n_heirs n_left n_kinds n_figures refusals n v15.1 v15.2.1 v15.2.2.1 v15.2.2.2.1 v15.2.2.2.2.1 v15.2.2.2.2.2.1 v15.2.2.2.2.2.2) 22 (fun v15 => [(0, .ref (ad 0)), (1, .int a1), (2, .int v15.1), (3, .int v15.2.1), (4, .int v15.2.2.1)]) (fun v15 => (wX ad kc cI tolds hasImage n_heirs n_left n_bitten n_kinds n_figures k_heirs k_left k_bitten k_kinds k_figures t_heirs t_left t_bitten t_kinds t_figures v15.2.2.2.1 v15.2.2.2.2.1 v15.2.2.2.2.2.1 v15.2.2.2.2.2.2 c_ways c_fewest c_nextWays c_nextFewest x_length x_letters told refusals ends)) 1000 ((-9 : Int32), (0 : Int32), (0 : Int32), r_gone, r_heaps, r_fewestCells, r_deed) hf (fun v15 hf => by simp only [f_X5_grudge_22] at hf; exact absurd hf (by simp)) (fun n ih16 v15 hf => ?_)
    replace hf := (f_X5_grudge_22_s _ _ _ _ _ _ _ _ _ _ _ _ _ _).symm.trans hf
    refine s_iload C 24 4 rfl dX5_grudge_22 rfl ?_
    refine s_aload_n C 25 0 rfl dX5_grudge_24 rfl ?_
    refine s_get (C1 := RX5) (T := TX5) (N := 11) (ci := 4) C 28 0 0 uX5 rfl rfl (Nat.le_of_ble_eq_true rfl) uu130 rfl rfl rfl dX5_grudge_25 ?_
    refine s_get (C1 := RX0) (T := TX0) (N := 5) (ci := 0) C 31 1 2 uX0 rfl rfl (Nat.le_of_ble_eq_true rfl) uu49 rfl rfl rfl dX5_grudge_28 ?_
    refine s_icmp_ge C 111 34 rfl dX5_grudge_31 rfl (fun hc28 => ?_) (fun hc28 => ?_)
    · replace hf := ite_t hc28 hf
      refine s_iload_n C 112 2 rfl dX5_grudge_111 rfl ?_
      obtain rfl := Option.some.inj hf
      exact s_iret C kc hr hlk rfl rfl dX5_grudge_112
    · replace hf := ite_f hc28 hf
      refine s_iload C 36 4 rfl dX5_grudge_34 rfl ?_
      refine s_iload_n C 37 1 rfl dX5_grudge_36 rfl ?_
      refine s_bn (α := Int32 × Int32 × Int32 × Int32 × Int32 × Int32) 105 (fun j17 => [(0, .ref (ad 0)), (1, .int a1), (2, .int j17.1), (3, .int j17.2.1), (4, .int v15.2.2.1)]) (fun j17 => []) (fun j17 => (wX ad kc cI tolds hasImage n_heirs n_left n_bitten n_kinds n_figures k_heirs k_left k_bitten k_kinds k_figures t_heirs t_left t_bitten t_kinds t_figures j17.2.2.2.2.1 j17.2.2.2.2.2 j17.2.2.2.1 j17.2.2.1 c_ways c_fewest c_nextWays c_nextFewest x_length x_letters told refusals ends)) hf (fun j17 hf => ?_) (fun hj hf => ?_)
      · refine s_iinc (lv1 := [(4, .int (v15.2.2.1 + (1 : Int32))), (0, .ref (ad 0)), (1, .int a1), (2, .int j17.1), (3, .int j17.2.1)]) C 108 4 4 rfl dX5_grudge_105 rfl ic_1 (Nat.le_of_ble_eq_true rfl) rfl ?_
        refine s_goto C 22 dX5_grudge_108 rfl ?_
        exact s_lv [1, 2, 3, 4, 0] rfl (ih16 ((j17.1, j17.2.1, v15.2.2.1 + (1 : Int32), j17.2.2.2.2.1, j17.2.2.2.2.2, j17.2.2.2.1, j17.2.2.1) : Int32 × Int32 × Int32 × Int32 × Int32 × Int32 × Int32) hf)
      · refine s_icmp_ne C 43 40 rfl dX5_grudge_37 rfl (fun hc27 => ?_) (fun hc27 => ?_)
        · replace hf := bn_f hc27 hf
          refine s_aload_n C 44 0 rfl dX5_grudge_43 rfl ?_
          refine s_iload C 46 4 rfl dX5_grudge_44 rfl ?_
          refine s_aload_n C 47 0 rfl dX5_grudge_46 rfl ?_
          refine s_get (C1 := RX5) (T := TX5) (N := 11) (ci := 4) C 50 0 0 uX5 rfl rfl (Nat.le_of_ble_eq_true rfl) uu130 rfl rfl rfl dX5_grudge_47 ?_
          refine s_get (C1 := RX0) (T := TX0) (N := 5) (ci := 0) C 53 1 3 uX0 rfl rfl (Nat.le_of_ble_eq_true rfl) uu53 rfl rfl rfl dX5_grudge_50 ?_
          refine s_iconst C 54 rfl dX5_grudge_53 ic_1 ?_
          obtain ⟨r18, q19, hf⟩ := bn_b hf
          refine s_callW (T := TX5) (N := 11) (ci := 4) (q0 := 0) (rest := []) C 57 (c_X5_furthestBite l D cI adK adV ad kc tolds hasImage n_heirs n_left n_bitten n_kinds n_figures k_heirs k_left k_bitten k_kinds k_figures t_heirs t_left t_bitten t_kinds t_figures v15.2.2.2.1 v15.2.2.2.2.1 v15.2.2.2.2.2.1 v15.2.2.2.2.2.2 c_ways c_fewest c_nextWays c_nextFewest x_length x_letters told refusals ends v15.2.2.1 n_left (1 : Int32) r18 q19) (gV uu794 uu796 uu1560 uu1 uu797) hd_X5_furthestBite rfl ⟨rfl, rfl⟩ ⟨Nat.le_of_ble_eq_true rfl, Nat.le_of_ble_eq_true rfl⟩ ⟨Nat.le_of_ble_eq_true rfl, Nat.le_of_ble_eq_true rfl⟩ rfl rfl rfl (Nat.le_of_ble_eq_true rfl) rfl dX5_grudge_54 (fun _ => ?_)
          refine s_istore (lv1 := [(5, .int r18.1), (0, .ref (ad 0)), (1, .int a1), (2, .int v15.1), (3, .int v15.2.1), (4, .int v15.2.2.1)]) C 59 5 rfl dX5_grudge_57 (Nat.le_of_ble_eq_true rfl) rfl ?_
          refine s_iload C 61 0 rfl dX5_grudge_59 rfl ?_
          refine s_iconst C 62 rfl dX5_grudge_61 ic_m1 ?_
          refine s_icmp_ne C 68 65 rfl dX5_grudge_62 rfl (fun hc26 => ?_) (fun hc26 => ?_)
          · replace hf := bn_f hc26 hf
            refine s_aload_n C 69 1 rfl dX5_grudge_68 rfl ?_
            refine s_iload_n C 70 2 rfl dX5_grudge_69 rfl ?_
            refine s_iload C 72 0 rfl dX5_grudge_70 rfl ?_
            refine s_aload_n C 73 1 rfl dX5_grudge_72 rfl ?_
            refine s_get (C1 := RX5) (T := TX5) (N := 11) (ci := 4) C 76 0 0 uX5 rfl rfl (Nat.le_of_ble_eq_true rfl) uu130 rfl rfl rfl dX5_grudge_73 ?_
            refine s_get (C1 := RX0) (T := TX0) (N := 5) (ci := 0) C 79 1 3 uX0 rfl rfl (Nat.le_of_ble_eq_true rfl) uu53 rfl rfl rfl dX5_grudge_76 ?_
            obtain ⟨r20, q21, hf⟩ := bn_b hf
            refine s_callS0 (host := "") (rest := [.int a1, .ref (ad 0)]) C 82 (c_X2_behind l D cI adK adV r18.1 n_left r20 q21) (gS uu657 uu659 uu14 uu660) hd_X2_behind rfl ⟨rfl, rfl⟩ ⟨Nat.le_of_ble_eq_true rfl, Nat.le_of_ble_eq_true rfl⟩ ⟨Nat.le_of_ble_eq_true rfl, Nat.le_of_ble_eq_true rfl⟩ rfl (Nat.le_of_ble_eq_true rfl) rfl dX5_grudge_79 ?_
            obtain ⟨r22, q23, hf⟩ := bn_b hf
            refine s_callW (T := TX5) (N := 11) (ci := 4) (q0 := 0) (rest := []) C 85 (c_X5_shareOf l D cI adK adV ad kc tolds hasImage n_heirs n_left n_bitten n_kinds n_figures k_heirs k_left k_bitten k_kinds k_figures t_heirs t_left t_bitten t_kinds t_figures r18.2.1 r18.2.2.1 r18.2.2.2.1 r18.2.2.2.2 c_ways c_fewest c_nextWays c_nextFewest x_length x_letters told refusals ends a1 r20 r22 q23) (gV uu516 uu518 uu1548 uu1 uu519) hd_X5_shareOf rfl ⟨rfl, rfl⟩ ⟨Nat.le_of_ble_eq_true rfl, Nat.le_of_ble_eq_true rfl⟩ ⟨Nat.le_of_ble_eq_true rfl, Nat.le_of_ble_eq_true rfl⟩ rfl rfl rfl (Nat.le_of_ble_eq_true rfl) rfl dX5_grudge_82 (fun _ => ?_)
            refine s_istore (lv1 := [(6, .int r22.1), (5, .int r18.1), (0, .ref (ad 0)), (1, .int a1), (2, .int v15.1), (3, .int v15.2.1), (4, .int v15.2.2.1)]) C 87 6 rfl dX5_grudge_85 (Nat.le_of_ble_eq_true rfl) rfl ?_
            refine s_iload_n C 88 4 rfl dX5_grudge_87 rfl ?_
            refine s_bipush C 90 rfl dX5_grudge_88 bp_m9 ?_
            refine s_icmp_eq C 99 93 rfl dX5_grudge_90 rfl (fun hc25 => ?_) (fun hc25 => ?_)
            · replace hf := bn_t hc25 hf
              refine s_iload C 101 6 rfl dX5_grudge_99 rfl ?_
              refine s_istore_n (lv1 := [(2, .int v15.2.2.1), (6, .int r22.1), (5, .int r18.1), (0, .ref (ad 0)), (1, .int a1), (3, .int v15.2.1), (4, .int v15.2.2.1)]) C 102 2 rfl dX5_grudge_101 rfl (Nat.le_of_ble_eq_true rfl) rfl ?_
              refine s_iload C 104 1 rfl dX5_grudge_102 rfl ?_
              refine s_istore_n (lv1 := [(3, .int r22.1), (2, .int v15.2.2.1), (6, .int r22.1), (5, .int r18.1), (0, .ref (ad 0)), (1, .int a1), (4, .int v15.2.2.1)]) C 105 3 rfl dX5_grudge_104 rfl (Nat.le_of_ble_eq_true rfl) rfl ?_
              replace hf := bn_i hf
              exact s_lv [4, 5, 1, 0, 6] rfl (hj ((v15.2.2.1, r22.1, r22.2.2.2.2, r22.2.2.2.1, r22.2.1, r22.2.2.1) : Int32 × Int32 × Int32 × Int32 × Int32 × Int32) hf)
            · replace hf := bn_f hc25 hf
              refine s_iload C 95 0 rfl dX5_grudge_93 rfl ?_
              refine s_iload_n C 96 5 rfl dX5_grudge_95 rfl ?_
              refine s_icmp_ge C 105 99 rfl dX5_grudge_96 rfl (fun hc24 => ?_) (fun hc24 => ?_)
              · replace hf := bn_t hc24 hf
                replace hf := bn_i hf
                exact s_lv [2, 3, 4, 5, 6] rfl (hj ((v15.1, v15.2.1, r22.2.2.2.2, r22.2.2.2.1, r22.2.1, r22.2.2.1) : Int32 × Int32 × Int32 × Int32 × Int32 × Int32) hf)
              · replace hf := bn_f hc24 hf
                refine s_iload C 101 6 rfl dX5_grudge_99 rfl ?_
                refine s_istore_n (lv1 := [(2, .int v15.2.2.1), (6, .int r22.1), (5, .int r18.1), (0, .ref (ad 0)), (1, .int a1), (3, .int v15.2.1), (4, .int v15.2.2.1)]) C 102 2 rfl dX5_grudge_101 rfl (Nat.le_of_ble_eq_true rfl) rfl ?_
                refine s_iload C 104 1 rfl dX5_grudge_102 rfl ?_
                refine s_istore_n (lv1 := [(3, .int r22.1), (2, .int v15.2.2.1), (6, .int r22.1), (5, .int r18.1), (0, .ref (ad 0)), (1, .int a1), (4, .int v15.2.2.1)]) C 105 3 rfl dX5_grudge_104 rfl (Nat.le_of_ble_eq_true rfl) rfl ?_
                replace hf := bn_i hf
                exact s_lv [4, 5, 1, 0, 6] rfl (hj ((v15.2.2.1, r22.1, r22.2.2.2.2, r22.2.2.2.1, r22.2.1, r22.2.2.1) : Int32 × Int32 × Int32 × Int32 × Int32 × Int32) hf)
          · replace hf := bn_t hc26 hf
            refine s_goto C 105 dX5_grudge_65 rfl ?_
            replace hf := bn_i hf
            exact s_lv [1, 2, 3, 4, 5] rfl (hj ((v15.1, v15.2.1, r18.2.2.2.2, r18.2.2.2.1, r18.2.1, r18.2.2.1) : Int32 × Int32 × Int32 × Int32 × Int32 × Int32) hf)
        · replace hf := bn_t hc27 hf
          refine s_goto C 105 dX5_grudge_40 rfl ?_
          replace hf := bn_i hf
          exact s_lv [0, 1, 2, 3, 4] rfl (hj ((v15.1, v15.2.1, v15.2.2.2.2.2.2, v15.2.2.2.2.2.1, v15.2.2.2.1, v15.2.2.2.2.1) : Int32 × Int32 × Int32 × Int32 × Int32 × Int32) hf)
  · replace hf := ite_t hc31 hf
    refine s_aload_n C 9 0 rfl dX5_grudge_8 rfl ?_
    refine s_iconst C 10 rfl dX5_grudge_9 ic_m1 ?_
    obtain ⟨r29, q30, hf⟩ := bn_s hf
    refine s_callW (T := TX5) (N := 11) (ci := 4) (q0 := 0) (rest := []) C 13 (c_X5_refused l D cI adK adV ad kc tolds hasImage n_heirs n_left n_bitten n_kinds n_figures k_heirs k_left k_bitten k_kinds k_figures t_heirs t_left t_bitten t_kinds t_figures r_gone r_heaps r_fewestCells r_deed c_ways c_fewest c_nextWays c_nextFewest x_length x_letters told refusals ends (-1 : Int32) r29 q30) (gV uu169 uu171 uu1541 uu1 uu172) hd_X5_refused rfl ⟨rfl, rfl⟩ ⟨Nat.le_of_ble_eq_true rfl, Nat.le_of_ble_eq_true rfl⟩ ⟨Nat.le_of_ble_eq_true rfl, Nat.le_of_ble_eq_true rfl⟩ rfl rfl rfl (Nat.le_of_ble_eq_true rfl) rfl dX5_grudge_10 (fun _ => ?_)
    obtain rfl := Option.some.inj hf
    exact s_iret C kc hr hlk rfl rfl dX5_grudge_13


theorem hd_X5_gain : yX5_gain.cls = RX5 ∧ yX5_gain.cls ≠ "java/lang/invoke/MethodHandle" ∧ yX5_gain.cls ≠ "java/lang/invoke/VarHandle" ∧ (parseMethodDescriptor yX5_gain.desc).map (fun d => d.parameters.length) = some 2 := by decide +kernel
set_option maxHeartbeats 4000000 in
set_option maxRecDepth 100000 in
theorem c_X5_gain (l : Launch) (D : va_G) (cI : ClassId) (adK adV : Nat → Nat) (ad : Nat → Nat) (kc : Nat → Nat) (tolds : Int32) (hasImage : Int32) (n_heirs : Int32) (n_left : Int32) (n_bitten : Int32) (n_kinds : (Nat → Int32)) (n_figures : (Nat → Int32)) (k_heirs : Int32) (k_left : Int32) (k_bitten : Int32) (k_kinds : (Nat → Int32)) (k_figures : (Nat → Int32)) (t_heirs : Int32) (t_left : Int32) (t_bitten : Int32) (t_kinds : (Nat → Int32)) (t_figures : (Nat → Int32)) (r_gone : Int32) (r_heaps : Int32) (r_fewestCells : Int32) (r_deed : Int32) (c_ways : (Nat → Int32)) (c_fewest : (Nat → Int32)) (c_nextWays : (Nat → Int32)) (c_nextFewest : (Nat → Int32)) (x_length : Int32) (x_letters : (Nat → Int32)) (told : (Nat → Int32)) (refusals : (Nat → Int32)) (ends : (Nat → Int32)) (a1 : Int32) (a2 : Int32) (o : Int32 × Int32 × Int32 × Int32 × Int32 × (Nat → Int32)) (hf : f_X5_gain n_heirs n_left n_kinds n_figures r_gone r_heaps r_fewestCells r_deed refusals a1 a2 = some o) : Ct l D cI adK adV yX5_gain (wy yX5_gain cX5_gain 4 (some .int)) { frames := 5, cells := 0, slots := 0, locals := 121 } 0 0 [.ref (ad 0), .int a1, .int a2] (wX ad kc cI tolds hasImage n_heirs n_left n_bitten n_kinds n_figures k_heirs k_left k_bitten k_kinds k_figures t_heirs t_left t_bitten t_kinds t_figures r_gone r_heaps r_fewestCells r_deed c_ways c_fewest c_nextWays c_nextFewest x_length x_letters told refusals ends) (fun _ => (wX ad kc cI tolds hasImage n_heirs n_left n_bitten n_kinds n_figures k_heirs k_left k_bitten k_kinds k_figures t_heirs t_left t_bitten t_kinds t_figures o.2.1 o.2.2.1 o.2.2.2.1 o.2.2.2.2.1 c_ways c_fewest c_nextWays c_nextFewest x_length x_letters told o.2.2.2.2.2 ends)) (some (.int o.1)) := by
  refine Ct.of (cc := cX5_gain) (nL := 4) (ret := (some .int)) (own := RX5) (by decide) (Nat.le_of_ble_eq_true rfl) rfl ?_
  intro p e s m args below meth c A C hr hlk hnm
  refine s_lv (lv1 := [(0, .ref (ad 0)), (1, .int a1), (2, .int a2)]) [0, 1, 2] rfl ?_
  unfold f_X5_gain at hf
  refine s_aload_n C 1 0 rfl dX5_gain_0 rfl ?_
  refine s_iload_n C 2 1 rfl dX5_gain_1 rfl ?_
  refine s_iload_n C 3 2 rfl dX5_gain_2 rfl ?_
  obtain ⟨r1, q2, hf⟩ := bn_s hf
  refine s_callW (T := TX5) (N := 11) (ci := 4) (q0 := 0) (rest := []) C 6 (c_X5_areTwo l D cI adK adV ad kc tolds hasImage n_heirs n_left n_bitten n_kinds n_figures k_heirs k_left k_bitten k_kinds k_figures t_heirs t_left t_bitten t_kinds t_figures r_gone r_heaps r_fewestCells r_deed c_ways c_fewest c_nextWays c_nextFewest x_length x_letters told refusals ends a1 a2 r1 q2) (gV uu854 uu856 uu1565 uu1 uu857) hd_X5_areTwo rfl ⟨rfl, rfl⟩ ⟨Nat.le_of_ble_eq_true rfl, Nat.le_of_ble_eq_true rfl⟩ ⟨Nat.le_of_ble_eq_true rfl, Nat.le_of_ble_eq_true rfl⟩ rfl rfl rfl (Nat.le_of_ble_eq_true rfl) rfl dX5_gain_3 (fun _ => ?_)
  refine s_if_ne C 18 9 rfl dX5_gain_6 rfl (fun hc13 => ?_) (fun hc13 => ?_)
  · replace hf := ite_f hc13 hf
    refine s_aload_n C 19 0 rfl dX5_gain_18 rfl ?_
    refine s_iload_n C 20 1 rfl dX5_gain_19 rfl ?_
    refine s_aload_n C 21 0 rfl dX5_gain_20 rfl ?_
    refine s_get (C1 := RX5) (T := TX5) (N := 11) (ci := 4) C 24 0 0 uX5 rfl rfl (Nat.le_of_ble_eq_true rfl) uu130 rfl rfl rfl dX5_gain_21 ?_
    refine s_get (C1 := RX0) (T := TX0) (N := 5) (ci := 0) C 27 1 3 uX0 rfl rfl (Nat.le_of_ble_eq_true rfl) uu53 rfl rfl rfl dX5_gain_24 ?_
    refine s_iconst C 28 rfl dX5_gain_27 ic_1 ?_
    obtain ⟨r3, q4, hf⟩ := bn_s hf
    refine s_callW (T := TX5) (N := 11) (ci := 4) (q0 := 0) (rest := []) C 31 (c_X5_furthestBite l D cI adK adV ad kc tolds hasImage n_heirs n_left n_bitten n_kinds n_figures k_heirs k_left k_bitten k_kinds k_figures t_heirs t_left t_bitten t_kinds t_figures r_gone r_heaps r_fewestCells r_deed c_ways c_fewest c_nextWays c_nextFewest x_length x_letters told refusals ends a1 n_left (1 : Int32) r3 q4) (gV uu794 uu796 uu1560 uu1 uu797) hd_X5_furthestBite rfl ⟨rfl, rfl⟩ ⟨Nat.le_of_ble_eq_true rfl, Nat.le_of_ble_eq_true rfl⟩ ⟨Nat.le_of_ble_eq_true rfl, Nat.le_of_ble_eq_true rfl⟩ rfl rfl rfl (Nat.le_of_ble_eq_true rfl) rfl dX5_gain_28 (fun _ => ?_)
    refine s_istore_n (lv1 := [(3, .int r3.1), (0, .ref (ad 0)), (1, .int a1), (2, .int a2)]) C 32 3 rfl dX5_gain_31 rfl (Nat.le_of_ble_eq_true rfl) rfl ?_
    refine s_aload_n C 33 1 rfl dX5_gain_32 rfl ?_
    refine s_iload_n C 34 3 rfl dX5_gain_33 rfl ?_
    refine s_iload_n C 35 0 rfl dX5_gain_34 rfl ?_
    refine s_aload_n C 36 1 rfl dX5_gain_35 rfl ?_
    refine s_get (C1 := RX5) (T := TX5) (N := 11) (ci := 4) C 39 0 0 uX5 rfl rfl (Nat.le_of_ble_eq_true rfl) uu130 rfl rfl rfl dX5_gain_36 ?_
    refine s_get (C1 := RX0) (T := TX0) (N := 5) (ci := 0) C 42 1 3 uX0 rfl rfl (Nat.le_of_ble_eq_true rfl) uu53 rfl rfl rfl dX5_gain_39 ?_
    obtain ⟨r5, q6, hf⟩ := bn_s hf
    refine s_callS0 (host := "") (rest := [.int a2, .ref (ad 0)]) C 45 (c_X2_behind l D cI adK adV r3.1 n_left r5 q6) (gS uu657 uu659 uu14 uu660) hd_X2_behind rfl ⟨rfl, rfl⟩ ⟨Nat.le_of_ble_eq_true rfl, Nat.le_of_ble_eq_true rfl⟩ ⟨Nat.le_of_ble_eq_true rfl, Nat.le_of_ble_eq_true rfl⟩ rfl (Nat.le_of_ble_eq_true rfl) rfl dX5_gain_42 ?_
    obtain ⟨r7, q8, hf⟩ := bn_s hf
    refine s_callW (T := TX5) (N := 11) (ci := 4) (q0 := 0) (rest := []) C 48 (c_X5_shareOf l D cI adK adV ad kc tolds hasImage n_heirs n_left n_bitten n_kinds n_figures k_heirs k_left k_bitten k_kinds k_figures t_heirs t_left t_bitten t_kinds t_figures r3.2.1 r3.2.2.1 r3.2.2.2.1 r3.2.2.2.2 c_ways c_fewest c_nextWays c_nextFewest x_length x_letters told refusals ends a2 r5 r7 q8) (gV uu516 uu518 uu1548 uu1 uu519) hd_X5_shareOf rfl ⟨rfl, rfl⟩ ⟨Nat.le_of_ble_eq_true rfl, Nat.le_of_ble_eq_true rfl⟩ ⟨Nat.le_of_ble_eq_true rfl, Nat.le_of_ble_eq_true rfl⟩ rfl rfl rfl (Nat.le_of_ble_eq_true rfl) rfl dX5_gain_45 (fun _ => ?_)
    refine s_aload_n C 49 1 rfl dX5_gain_48 rfl ?_
    refine s_iload_n C 50 3 rfl dX5_gain_49 rfl ?_
    refine s_aload_n C 51 1 rfl dX5_gain_50 rfl ?_
    refine s_get (C1 := RX5) (T := TX5) (N := 11) (ci := 4) C 54 0 0 uX5 rfl rfl (Nat.le_of_ble_eq_true rfl) uu130 rfl rfl rfl dX5_gain_51 ?_
    refine s_get (C1 := RX0) (T := TX0) (N := 5) (ci := 0) C 57 1 3 uX0 rfl rfl (Nat.le_of_ble_eq_true rfl) uu53 rfl rfl rfl dX5_gain_54 ?_
    obtain ⟨r9, q10, hf⟩ := bn_s hf
    refine s_callW (T := TX5) (N := 11) (ci := 4) (q0 := 0) (rest := [.int r7.1]) C 60 (c_X5_shareOf l D cI adK adV ad kc tolds hasImage n_heirs n_left n_bitten n_kinds n_figures k_heirs k_left k_bitten k_kinds k_figures t_heirs t_left t_bitten t_kinds t_figures r7.2.1 r7.2.2.1 r7.2.2.2.1 r7.2.2.2.2 c_ways c_fewest c_nextWays c_nextFewest x_length x_letters told refusals ends a2 n_left r9 q10) (gV uu516 uu518 uu1548 uu1 uu519) hd_X5_shareOf rfl ⟨rfl, rfl⟩ ⟨Nat.le_of_ble_eq_true rfl, Nat.le_of_ble_eq_true rfl⟩ ⟨Nat.le_of_ble_eq_true rfl, Nat.le_of_ble_eq_true rfl⟩ rfl rfl rfl (Nat.le_of_ble_eq_true rfl) rfl dX5_gain_57 (fun _ => ?_)
    refine s_isub C 61 rfl dX5_gain_60 ?_
    obtain rfl := Option.some.inj hf
    exact s_iret C kc hr hlk rfl rfl dX5_gain_61
  · replace hf := ite_t hc13 hf
    refine s_ldc C 11 rfl dX5_gain_9 uu859 ?_
    refine s_aload_n C 12 0 rfl dX5_gain_11 rfl ?_
    refine s_iconst C 13 rfl dX5_gain_12 ic_m1 ?_
    obtain ⟨r11, q12, hf⟩ := bn_s hf
    refine s_callW (T := TX5) (N := 11) (ci := 4) (q0 := 0) (rest := [.int (1000000000 : Int32)]) C 16 (c_X5_refused l D cI adK adV ad kc tolds hasImage n_heirs n_left n_bitten n_kinds n_figures k_heirs k_left k_bitten k_kinds k_figures t_heirs t_left t_bitten t_kinds t_figures r_gone r_heaps r_fewestCells r_deed c_ways c_fewest c_nextWays c_nextFewest x_length x_letters told refusals ends (-1 : Int32) r11 q12) (gV uu169 uu171 uu1541 uu1 uu172) hd_X5_refused rfl ⟨rfl, rfl⟩ ⟨Nat.le_of_ble_eq_true rfl, Nat.le_of_ble_eq_true rfl⟩ ⟨Nat.le_of_ble_eq_true rfl, Nat.le_of_ble_eq_true rfl⟩ rfl rfl rfl (Nat.le_of_ble_eq_true rfl) rfl dX5_gain_13 (fun _ => ?_)
    refine s_isub C 17 rfl dX5_gain_16 ?_
    obtain rfl := Option.some.inj hf
    exact s_iret C kc hr hlk rfl rfl dX5_gain_17


theorem hd_X5_two : yX5_two.cls = RX5 ∧ yX5_two.cls ≠ "java/lang/invoke/MethodHandle" ∧ yX5_two.cls ≠ "java/lang/invoke/VarHandle" ∧ (parseMethodDescriptor yX5_two.desc).map (fun d => d.parameters.length) = some 2 := by decide +kernel
set_option maxHeartbeats 4000000 in
set_option maxRecDepth 100000 in
theorem c_X5_two (l : Launch) (D : va_G) (cI : ClassId) (adK adV : Nat → Nat) (ad : Nat → Nat) (kc : Nat → Nat) (tolds : Int32) (hasImage : Int32) (n_heirs : Int32) (n_left : Int32) (n_bitten : Int32) (n_kinds : (Nat → Int32)) (n_figures : (Nat → Int32)) (k_heirs : Int32) (k_left : Int32) (k_bitten : Int32) (k_kinds : (Nat → Int32)) (k_figures : (Nat → Int32)) (t_heirs : Int32) (t_left : Int32) (t_bitten : Int32) (t_kinds : (Nat → Int32)) (t_figures : (Nat → Int32)) (r_gone : Int32) (r_heaps : Int32) (r_fewestCells : Int32) (r_deed : Int32) (c_ways : (Nat → Int32)) (c_fewest : (Nat → Int32)) (c_nextWays : (Nat → Int32)) (c_nextFewest : (Nat → Int32)) (x_length : Int32) (x_letters : (Nat → Int32)) (told : (Nat → Int32)) (refusals : (Nat → Int32)) (ends : (Nat → Int32)) (a1 : Int32) (a2 : Int32) (o : Int32 × Int32 × Int32 × Int32 × Int32 × (Nat → Int32) × (Nat → Int32)) (hf : f_X5_two n_heirs n_left n_kinds n_figures r_gone r_heaps r_fewestCells r_deed refusals ends a1 a2 = some o) : Ct l D cI adK adV yX5_two (wy yX5_two cX5_two 5 (some .int)) { frames := 6, cells := 0, slots := 0, locals := 144 } 0 0 [.ref (ad 0), .int a1, .int a2] (wX ad kc cI tolds hasImage n_heirs n_left n_bitten n_kinds n_figures k_heirs k_left k_bitten k_kinds k_figures t_heirs t_left t_bitten t_kinds t_figures r_gone r_heaps r_fewestCells r_deed c_ways c_fewest c_nextWays c_nextFewest x_length x_letters told refusals ends) (fun _ => (wX ad kc cI tolds hasImage n_heirs n_left n_bitten n_kinds n_figures k_heirs k_left k_bitten k_kinds k_figures t_heirs t_left t_bitten t_kinds t_figures o.2.1 o.2.2.1 o.2.2.2.1 o.2.2.2.2.1 c_ways c_fewest c_nextWays c_nextFewest x_length x_letters told o.2.2.2.2.2.1 o.2.2.2.2.2.2)) (some (.int o.1)) := by
  refine Ct.of (cc := cX5_two) (nL := 5) (ret := (some .int)) (own := RX5) (by decide) (Nat.le_of_ble_eq_true rfl) rfl ?_
  intro p e s m args below meth c A C hr hlk hnm
  refine s_lv (lv1 := [(0, .ref (ad 0)), (1, .int a1), (2, .int a2)]) [0, 1, 2] rfl ?_
  unfold f_X5_two at hf
  refine s_aload_n C 1 0 rfl dX5_two_0 rfl ?_
  refine s_iload_n C 2 1 rfl dX5_two_1 rfl ?_
  refine s_iload_n C 3 2 rfl dX5_two_2 rfl ?_
  obtain ⟨r1, q2, hf⟩ := bn_s hf
  refine s_callW (T := TX5) (N := 11) (ci := 4) (q0 := 0) (rest := []) C 6 (c_X5_areTwo l D cI adK adV ad kc tolds hasImage n_heirs n_left n_bitten n_kinds n_figures k_heirs k_left k_bitten k_kinds k_figures t_heirs t_left t_bitten t_kinds t_figures r_gone r_heaps r_fewestCells r_deed c_ways c_fewest c_nextWays c_nextFewest x_length x_letters told refusals ends a1 a2 r1 q2) (gV uu854 uu856 uu1565 uu1 uu857) hd_X5_areTwo rfl ⟨rfl, rfl⟩ ⟨Nat.le_of_ble_eq_true rfl, Nat.le_of_ble_eq_true rfl⟩ ⟨Nat.le_of_ble_eq_true rfl, Nat.le_of_ble_eq_true rfl⟩ rfl rfl rfl (Nat.le_of_ble_eq_true rfl) rfl dX5_two_3 (fun _ => ?_)
  refine s_if_ne C 15 9 rfl dX5_two_6 rfl (fun hc59 => ?_) (fun hc59 => ?_)
  · replace hf := ite_f hc59 hf
    refine s_iconst C 16 rfl dX5_two_15 ic_0 ?_
    refine s_istore_n (lv1 := [(3, .int (0 : Int32)), (0, .ref (ad 0)), (1, .int a1), (2, .int a2)]) C 17 3 rfl dX5_two_16 rfl (Nat.le_of_ble_eq_true rfl) rfl ?_
    refine s_lv (lv1 := [(0, .ref (ad 0)), (1, .int a1), (2, .int a2), (3, .int (0 : Int32))]) [1, 2, 3, 0] rfl ?_
    refine s_kont (γ := Int32 × Int32 × Int32 × Int32 × (Nat → Int32)) (o := o) (fun KQ => f_X5_two_17 a1 a2 n_left n_kinds n_figures KQ 1000 (0 : Int32) r_gone r_heaps r_fewestCells r_deed ends = some o) 57 (fun e10 => [(0, .ref (ad 0)), (1, .int a1), (2, .int a2)]) (fun e10 => []) (fun e10 => (wX ad kc cI tolds hasImage n_heirs n_left n_bitten n_kinds n_figures k_heirs k_left k_bitten k_kinds k_figures t_heirs t_left t_bitten t_kinds t_figures e10.1 e10.2.1 e10.2.2.1 e10.2.2.2.1 c_ways c_fewest c_nextWays c_nextFewest x_length x_letters told refusals e10.2.2.2.2)) hf (fun e10 hf => ?_) (fun k9 hk9 hf => ?_)
    · refine s_iconst C 58 rfl dX5_two_57 ic_0 ?_
      refine s_istore_n (lv1 := [(3, .int (0 : Int32)), (0, .ref (ad 0)), (1, .int a1), (2, .int a2)]) C 59 3 rfl dX5_two_58 rfl (Nat.le_of_ble_eq_true rfl) rfl ?_
      refine s_lv (lv1 := [(0, .ref (ad 0)), (1, .int a1), (2, .int a2), (3, .int (0 : Int32))]) [1, 2, 3, 0] rfl ?_
      refine s_kont (γ := Int32 × Int32 × Int32 × Int32 × Int32) (o := o) (fun KQ => f_X5_two_59 a1 a2 n_kinds n_figures refusals e10.2.2.2.2 KQ 1000 (0 : Int32) e10.1 e10.2.1 e10.2.2.1 e10.2.2.2.1 = some o) 130 (fun e29 => [(3, .int e29.1)]) (fun e29 => []) (fun e29 => (wX ad kc cI tolds hasImage n_heirs n_left n_bitten n_kinds n_figures k_heirs k_left k_bitten k_kinds k_figures t_heirs t_left t_bitten t_kinds t_figures e29.2.1 e29.2.2.1 e29.2.2.2.1 e29.2.2.2.2 c_ways c_fewest c_nextWays c_nextFewest x_length x_letters told refusals e10.2.2.2.2)) hf (fun e29 hf => ?_) (fun k28 hk28 hf => ?_)
      · refine s_bipush C 132 rfl dX5_two_130 bp_10 ?_
        refine s_iload_n C 133 0 rfl dX5_two_132 rfl ?_
        refine s_iconst C 134 rfl dX5_two_133 ic_2 ?_
        refine s_idiv C 135 rfl dX5_two_134 (by decide) ?_
        refine s_imul C 136 rfl dX5_two_135 ?_
        refine s_iload_n C 137 0 rfl dX5_two_136 rfl ?_
        refine s_iconst C 138 rfl dX5_two_137 ic_2 ?_
        refine s_irem C 139 rfl dX5_two_138 (by decide) ?_
        refine s_iadd C 140 rfl dX5_two_139 ?_
        obtain rfl := Option.some.inj hf
        exact s_iret C kc hr hlk rfl rfl dX5_two_140
      · skip
        refine s_loop (α := Int32 × Int32 × Int32 × Int32 × Int32) (fun n v30 => f_X5_two_59 a1 a2 n_kinds n_figures refusals e10.2.2.2.2 k28 n v30.1 v30.2.1 v30.2.2.1 v30.2.2.2.1 v30.2.2.2.2) 59 (fun v30 => [(0, .ref (ad 0)), (1, .int a1), (2, .int a2), (3, .int v30.1)]) (fun v30 => (wX ad kc cI tolds hasImage n_heirs n_left n_bitten n_kinds n_figures k_heirs k_left k_bitten k_kinds k_figures t_heirs t_left t_bitten t_kinds t_figures v30.2.1 v30.2.2.1 v30.2.2.2.1 v30.2.2.2.2 c_ways c_fewest c_nextWays c_nextFewest x_length x_letters told refusals e10.2.2.2.2)) 1000 ((0 : Int32), e10.1, e10.2.1, e10.2.2.1, e10.2.2.2.1) hf (fun v30 hf => by simp only [f_X5_two_59] at hf; exact absurd hf (by simp)) (fun n ih31 v30 hf => ?_)
        replace hf := (f_X5_two_59_s _ _ _ _ _ _ _ _ _ _ _ _ _).symm.trans hf
        refine s_iload_n C 60 3 rfl dX5_two_59 rfl ?_
        refine s_iconst C 61 rfl dX5_two_60 ic_4 ?_
        refine s_icmp_ge C 147 64 rfl dX5_two_61 rfl (fun hc48 => ?_) (fun hc48 => ?_)
        · replace hf := ite_t hc48 hf
          refine s_bipush C 149 rfl dX5_two_147 bp_m9 ?_
          obtain rfl := Option.some.inj hf
          exact s_iret C kc hr hlk rfl rfl dX5_two_149
        · replace hf := ite_f hc48 hf
          refine s_aload_n C 65 0 rfl dX5_two_64 rfl ?_
          refine s_iload_n C 66 1 rfl dX5_two_65 rfl ?_
          refine s_aload_n C 67 0 rfl dX5_two_66 rfl ?_
          refine s_get (C1 := RX5) (T := TX5) (N := 11) (ci := 4) C 70 0 8 uX5 rfl rfl (Nat.le_of_ble_eq_true rfl) uu146 rfl rfl rfl dX5_two_67 ?_
          refine s_iload_n C 71 3 rfl dX5_two_70 rfl ?_
          obtain ⟨h32, hf⟩ := ck_in hf
          refine s_iald C 72 20 rfl h32 rfl dX5_two_71 ?_
          obtain ⟨r33, q34, hf⟩ := bn_s hf
          refine s_callW (T := TX5) (N := 11) (ci := 4) (q0 := 0) (rest := []) C 75 (c_X5_shareOf l D cI adK adV ad kc tolds hasImage n_heirs n_left n_bitten n_kinds n_figures k_heirs k_left k_bitten k_kinds k_figures t_heirs t_left t_bitten t_kinds t_figures v30.2.1 v30.2.2.1 v30.2.2.2.1 v30.2.2.2.2 c_ways c_fewest c_nextWays c_nextFewest x_length x_letters told refusals e10.2.2.2.2 a1 (e10.2.2.2.2 v30.1.toNatClampNeg) r33 q34) (gV uu516 uu518 uu1548 uu1 uu519) hd_X5_shareOf rfl ⟨rfl, rfl⟩ ⟨Nat.le_of_ble_eq_true rfl, Nat.le_of_ble_eq_true rfl⟩ ⟨Nat.le_of_ble_eq_true rfl, Nat.le_of_ble_eq_true rfl⟩ rfl rfl rfl (Nat.le_of_ble_eq_true rfl) rfl dX5_two_72 (fun _ => ?_)
          refine s_aload_n C 76 0 rfl dX5_two_75 rfl ?_
          refine s_iload_n C 77 1 rfl dX5_two_76 rfl ?_
          refine s_aload_n C 78 0 rfl dX5_two_77 rfl ?_
          refine s_get (C1 := RX5) (T := TX5) (N := 11) (ci := 4) C 81 0 8 uX5 rfl rfl (Nat.le_of_ble_eq_true rfl) uu146 rfl rfl rfl dX5_two_78 ?_
          refine s_iload_n C 82 3 rfl dX5_two_81 rfl ?_
          refine s_iconst C 83 rfl dX5_two_82 ic_2 ?_
          refine s_ixor C 84 rfl dX5_two_83 ?_
          obtain ⟨h35, hf⟩ := ck_in hf
          refine s_iald C 85 20 rfl h35 rfl dX5_two_84 ?_
          obtain ⟨r36, q37, hf⟩ := bn_s hf
          refine s_callW (T := TX5) (N := 11) (ci := 4) (q0 := 0) (rest := [.int r33.1]) C 88 (c_X5_shareOf l D cI adK adV ad kc tolds hasImage n_heirs n_left n_bitten n_kinds n_figures k_heirs k_left k_bitten k_kinds k_figures t_heirs t_left t_bitten t_kinds t_figures r33.2.1 r33.2.2.1 r33.2.2.2.1 r33.2.2.2.2 c_ways c_fewest c_nextWays c_nextFewest x_length x_letters told refusals e10.2.2.2.2 a1 (e10.2.2.2.2 (v30.1 ^^^ (2 : Int32)).toNatClampNeg) r36 q37) (gV uu516 uu518 uu1548 uu1 uu519) hd_X5_shareOf rfl ⟨rfl, rfl⟩ ⟨Nat.le_of_ble_eq_true rfl, Nat.le_of_ble_eq_true rfl⟩ ⟨Nat.le_of_ble_eq_true rfl, Nat.le_of_ble_eq_true rfl⟩ rfl rfl rfl (Nat.le_of_ble_eq_true rfl) rfl dX5_two_85 (fun _ => ?_)
          refine s_jn (α := Int32) 96 (fun j38 => [(0, .ref (ad 0)), (1, .int a1), (2, .int a2), (3, .int v30.1)]) (fun j38 => [.int j38]) (fun j38 => (wX ad kc cI tolds hasImage n_heirs n_left n_bitten n_kinds n_figures k_heirs k_left k_bitten k_kinds k_figures t_heirs t_left t_bitten t_kinds t_figures r36.2.1 r36.2.2.1 r36.2.2.2.1 r36.2.2.2.2 c_ways c_fewest c_nextWays c_nextFewest x_length x_letters told refusals e10.2.2.2.2)) hf (fun j38 hf => ?_) (fun hj hf => ?_)
          · refine s_istore (lv1 := [(4, .int j38), (0, .ref (ad 0)), (1, .int a1), (2, .int a2), (3, .int v30.1)]) C 98 4 rfl dX5_two_96 (Nat.le_of_ble_eq_true rfl) rfl ?_
            refine s_iload C 100 0 rfl dX5_two_98 rfl ?_
            refine s_if_eq C 141 103 rfl dX5_two_100 rfl (fun hc47 => ?_) (fun hc47 => ?_)
            · replace hf := ite_t hc47 hf
              refine s_iinc (lv1 := [(3, .int (v30.1 + (1 : Int32))), (4, .int j38), (0, .ref (ad 0)), (1, .int a1), (2, .int a2)]) C 144 3 4 rfl dX5_two_141 rfl ic_1 (Nat.le_of_ble_eq_true rfl) rfl ?_
              refine s_goto C 59 dX5_two_144 rfl ?_
              exact s_lv [2, 3, 4, 0] rfl (ih31 ((v30.1 + (1 : Int32), r36.2.1, r36.2.2.1, r36.2.2.2.1, r36.2.2.2.2) : Int32 × Int32 × Int32 × Int32 × Int32) hf)
            · replace hf := ite_f hc47 hf
              refine s_aload_n C 104 1 rfl dX5_two_103 rfl ?_
              refine s_iload_n C 105 3 rfl dX5_two_104 rfl ?_
              refine s_aload_n C 106 1 rfl dX5_two_105 rfl ?_
              refine s_get (C1 := RX5) (T := TX5) (N := 11) (ci := 4) C 109 0 8 uX5 rfl rfl (Nat.le_of_ble_eq_true rfl) uu146 rfl rfl rfl dX5_two_106 ?_
              refine s_iload_n C 110 4 rfl dX5_two_109 rfl ?_
              obtain ⟨h40, hf⟩ := ck_in hf
              refine s_iald C 111 20 rfl h40 rfl dX5_two_110 ?_
              obtain ⟨r41, q42, hf⟩ := bn_s hf
              refine s_callW (T := TX5) (N := 11) (ci := 4) (q0 := 0) (rest := []) C 114 (c_X5_shareOf l D cI adK adV ad kc tolds hasImage n_heirs n_left n_bitten n_kinds n_figures k_heirs k_left k_bitten k_kinds k_figures t_heirs t_left t_bitten t_kinds t_figures r36.2.1 r36.2.2.1 r36.2.2.2.1 r36.2.2.2.2 c_ways c_fewest c_nextWays c_nextFewest x_length x_letters told refusals e10.2.2.2.2 a2 (e10.2.2.2.2 v30.1.toNatClampNeg) r41 q42) (gV uu516 uu518 uu1548 uu1 uu519) hd_X5_shareOf rfl ⟨rfl, rfl⟩ ⟨Nat.le_of_ble_eq_true rfl, Nat.le_of_ble_eq_true rfl⟩ ⟨Nat.le_of_ble_eq_true rfl, Nat.le_of_ble_eq_true rfl⟩ rfl rfl rfl (Nat.le_of_ble_eq_true rfl) rfl dX5_two_111 (fun _ => ?_)
              refine s_aload_n C 115 1 rfl dX5_two_114 rfl ?_
              refine s_iload_n C 116 3 rfl dX5_two_115 rfl ?_
              refine s_aload_n C 117 1 rfl dX5_two_116 rfl ?_
              refine s_get (C1 := RX5) (T := TX5) (N := 11) (ci := 4) C 120 0 8 uX5 rfl rfl (Nat.le_of_ble_eq_true rfl) uu146 rfl rfl rfl dX5_two_117 ?_
              refine s_iload_n C 121 4 rfl dX5_two_120 rfl ?_
              refine s_iconst C 122 rfl dX5_two_121 ic_1 ?_
              refine s_ixor C 123 rfl dX5_two_122 ?_
              obtain ⟨h43, hf⟩ := ck_in hf
              refine s_iald C 124 20 rfl h43 rfl dX5_two_123 ?_
              obtain ⟨r44, q45, hf⟩ := bn_s hf
              refine s_callW (T := TX5) (N := 11) (ci := 4) (q0 := 0) (rest := [.int r41.1]) C 127 (c_X5_shareOf l D cI adK adV ad kc tolds hasImage n_heirs n_left n_bitten n_kinds n_figures k_heirs k_left k_bitten k_kinds k_figures t_heirs t_left t_bitten t_kinds t_figures r41.2.1 r41.2.2.1 r41.2.2.2.1 r41.2.2.2.2 c_ways c_fewest c_nextWays c_nextFewest x_length x_letters told refusals e10.2.2.2.2 a2 (e10.2.2.2.2 (v30.1 ^^^ (1 : Int32)).toNatClampNeg) r44 q45) (gV uu516 uu518 uu1548 uu1 uu519) hd_X5_shareOf rfl ⟨rfl, rfl⟩ ⟨Nat.le_of_ble_eq_true rfl, Nat.le_of_ble_eq_true rfl⟩ ⟨Nat.le_of_ble_eq_true rfl, Nat.le_of_ble_eq_true rfl⟩ rfl rfl rfl (Nat.le_of_ble_eq_true rfl) rfl dX5_two_124 (fun _ => ?_)
              refine s_icmp_lt C 141 130 rfl dX5_two_127 rfl (fun hc46 => ?_) (fun hc46 => ?_)
              · replace hf := ite_t hc46 hf
                refine s_iinc (lv1 := [(3, .int (v30.1 + (1 : Int32))), (4, .int j38), (0, .ref (ad 0)), (1, .int a1), (2, .int a2)]) C 144 3 4 rfl dX5_two_141 rfl ic_1 (Nat.le_of_ble_eq_true rfl) rfl ?_
                refine s_goto C 59 dX5_two_144 rfl ?_
                exact s_lv [2, 3, 4, 0] rfl (ih31 ((v30.1 + (1 : Int32), r44.2.1, r44.2.2.1, r44.2.2.2.1, r44.2.2.2.2) : Int32 × Int32 × Int32 × Int32 × Int32) hf)
              · replace hf := ite_f hc46 hf
                exact s_lv [4] rfl (hk28 ((v30.1, r44.2.1, r44.2.2.1, r44.2.2.2.1, r44.2.2.2.2) : Int32 × Int32 × Int32 × Int32 × Int32) hf)
          · refine s_icmp_lt C 95 91 rfl dX5_two_88 rfl (fun hc39 => ?_) (fun hc39 => ?_)
            · replace hf := jn_t hc39 hf
              refine s_iconst C 96 rfl dX5_two_95 ic_0 ?_
              replace hf := jn_i hf
              exact s_lv [0, 1, 2, 3] rfl (hj ((0 : Int32) : Int32) hf)
            · replace hf := jn_f hc39 hf
              refine s_iconst C 92 rfl dX5_two_91 ic_1 ?_
              refine s_goto C 96 dX5_two_92 rfl ?_
              replace hf := jn_i hf
              exact s_lv [0, 1, 2, 3] rfl (hj ((1 : Int32) : Int32) hf)
    · skip
      refine s_loop (α := Int32 × Int32 × Int32 × Int32 × Int32 × (Nat → Int32)) (fun n v49 => f_X5_two_17 a1 a2 n_left n_kinds n_figures k9 n v49.1 v49.2.1 v49.2.2.1 v49.2.2.2.1 v49.2.2.2.2.1 v49.2.2.2.2.2) 17 (fun v49 => [(0, .ref (ad 0)), (1, .int a1), (2, .int a2), (3, .int v49.1)]) (fun v49 => (wX ad kc cI tolds hasImage n_heirs n_left n_bitten n_kinds n_figures k_heirs k_left k_bitten k_kinds k_figures t_heirs t_left t_bitten t_kinds t_figures v49.2.1 v49.2.2.1 v49.2.2.2.1 v49.2.2.2.2.1 c_ways c_fewest c_nextWays c_nextFewest x_length x_letters told refusals v49.2.2.2.2.2)) 1000 ((0 : Int32), r_gone, r_heaps, r_fewestCells, r_deed, ends) hf (fun v49 hf => by simp only [f_X5_two_17] at hf; exact absurd hf (by simp)) (fun n ih50 v49 hf => ?_)
      replace hf := (f_X5_two_17_s _ _ _ _ _ _ _ _ _ _ _ _ _).symm.trans hf
      refine s_iload_n C 18 3 rfl dX5_two_17 rfl ?_
      refine s_iconst C 19 rfl dX5_two_18 ic_4 ?_
      refine s_icmp_ge C 57 22 rfl dX5_two_19 rfl (fun hc56 => ?_) (fun hc56 => ?_)
      · replace hf := ite_t hc56 hf
        exact s_lv [0, 1, 2] rfl (hk9 ((v49.2.1, v49.2.2.1, v49.2.2.2.1, v49.2.2.2.2.1, v49.2.2.2.2.2) : Int32 × Int32 × Int32 × Int32 × (Nat → Int32)) hf)
      · replace hf := ite_f hc56 hf
        refine s_aload_n C 23 0 rfl dX5_two_22 rfl ?_
        refine s_get (C1 := RX5) (T := TX5) (N := 11) (ci := 4) C 26 0 8 uX5 rfl rfl (Nat.le_of_ble_eq_true rfl) uu146 rfl rfl rfl dX5_two_23 ?_
        refine s_iload_n C 27 3 rfl dX5_two_26 rfl ?_
        refine s_aload_n C 28 0 rfl dX5_two_27 rfl ?_
        refine s_iload_n C 29 2 rfl dX5_two_28 rfl ?_
        refine s_iload_n C 30 3 rfl dX5_two_29 rfl ?_
        refine s_iconst C 31 rfl dX5_two_30 ic_2 ?_
        refine s_irem C 32 rfl dX5_two_31 (by decide) ?_
        refine s_aload_n C 33 0 rfl dX5_two_32 rfl ?_
        refine s_iload_n C 34 1 rfl dX5_two_33 rfl ?_
        refine s_iload_n C 35 3 rfl dX5_two_34 rfl ?_
        refine s_iconst C 36 rfl dX5_two_35 ic_2 ?_
        refine s_idiv C 37 rfl dX5_two_36 (by decide) ?_
        refine s_aload_n C 38 0 rfl dX5_two_37 rfl ?_
        refine s_get (C1 := RX5) (T := TX5) (N := 11) (ci := 4) C 41 0 0 uX5 rfl rfl (Nat.le_of_ble_eq_true rfl) uu130 rfl rfl rfl dX5_two_38 ?_
        refine s_get (C1 := RX0) (T := TX0) (N := 5) (ci := 0) C 44 1 3 uX0 rfl rfl (Nat.le_of_ble_eq_true rfl) uu53 rfl rfl rfl dX5_two_41 ?_
        obtain ⟨r51, q52, hf⟩ := bn_s hf
        refine s_callW (T := TX5) (N := 11) (ci := 4) (q0 := 0) (rest := [.int (jrem v49.1 (2 : Int32)), .int a2, .ref (ad 0), .int v49.1, .ref (ad 16)]) C 47 (c_X5_chosen l D cI adK adV ad kc tolds hasImage n_heirs n_left n_bitten n_kinds n_figures k_heirs k_left k_bitten k_kinds k_figures t_heirs t_left t_bitten t_kinds t_figures v49.2.1 v49.2.2.1 v49.2.2.2.1 v49.2.2.2.2.1 c_ways c_fewest c_nextWays c_nextFewest x_length x_letters told refusals v49.2.2.2.2.2 a1 (v49.1 / (2 : Int32)) n_left r51 q52) (gV uu867 uu869 uu1566 uu1 uu870) hd_X5_chosen rfl ⟨rfl, rfl⟩ ⟨Nat.le_of_ble_eq_true rfl, Nat.le_of_ble_eq_true rfl⟩ ⟨Nat.le_of_ble_eq_true rfl, Nat.le_of_ble_eq_true rfl⟩ rfl rfl rfl (Nat.le_of_ble_eq_true rfl) rfl dX5_two_44 (fun _ => ?_)
        obtain ⟨r53, q54, hf⟩ := bn_s hf
        refine s_callW (T := TX5) (N := 11) (ci := 4) (q0 := 0) (rest := [.int v49.1, .ref (ad 16)]) C 50 (c_X5_chosen l D cI adK adV ad kc tolds hasImage n_heirs n_left n_bitten n_kinds n_figures k_heirs k_left k_bitten k_kinds k_figures t_heirs t_left t_bitten t_kinds t_figures r51.2.1 r51.2.2.1 r51.2.2.2.1 r51.2.2.2.2 c_ways c_fewest c_nextWays c_nextFewest x_length x_letters told refusals v49.2.2.2.2.2 a2 (jrem v49.1 (2 : Int32)) r51.1 r53 q54) (gV uu867 uu869 uu1566 uu1 uu870) hd_X5_chosen rfl ⟨rfl, rfl⟩ ⟨Nat.le_of_ble_eq_true rfl, Nat.le_of_ble_eq_true rfl⟩ ⟨Nat.le_of_ble_eq_true rfl, Nat.le_of_ble_eq_true rfl⟩ rfl rfl rfl (Nat.le_of_ble_eq_true rfl) rfl dX5_two_47 (fun _ => ?_)
        obtain ⟨h55, hf⟩ := ck_in hf
        refine s_iast (ws1 := (wX ad kc cI tolds hasImage n_heirs n_left n_bitten n_kinds n_figures k_heirs k_left k_bitten k_kinds k_figures t_heirs t_left t_bitten t_kinds t_figures r53.2.1 r53.2.2.1 r53.2.2.2.1 r53.2.2.2.2 c_ways c_fewest c_nextWays c_nextFewest x_length x_letters told refusals (upd v49.2.2.2.2.2 v49.1.toNatClampNeg r53.1))) C 51 20 rfl h55 rfl rfl dX5_two_50 ?_
        refine s_iinc (lv1 := [(3, .int (v49.1 + (1 : Int32))), (0, .ref (ad 0)), (1, .int a1), (2, .int a2)]) C 54 3 3 rfl dX5_two_51 rfl ic_1 (Nat.le_of_ble_eq_true rfl) rfl ?_
        refine s_goto C 17 dX5_two_54 rfl ?_
        exact s_lv [1, 2, 3, 0] rfl (ih50 ((v49.1 + (1 : Int32), r53.2.1, r53.2.2.1, r53.2.2.2.1, r53.2.2.2.2, upd v49.2.2.2.2.2 v49.1.toNatClampNeg r53.1) : Int32 × Int32 × Int32 × Int32 × Int32 × (Nat → Int32)) hf)
  · replace hf := ite_t hc59 hf
    refine s_aload_n C 10 0 rfl dX5_two_9 rfl ?_
    refine s_iconst C 11 rfl dX5_two_10 ic_m1 ?_
    obtain ⟨r57, q58, hf⟩ := bn_s hf
    refine s_callW (T := TX5) (N := 11) (ci := 4) (q0 := 0) (rest := []) C 14 (c_X5_refused l D cI adK adV ad kc tolds hasImage n_heirs n_left n_bitten n_kinds n_figures k_heirs k_left k_bitten k_kinds k_figures t_heirs t_left t_bitten t_kinds t_figures r_gone r_heaps r_fewestCells r_deed c_ways c_fewest c_nextWays c_nextFewest x_length x_letters told refusals ends (-1 : Int32) r57 q58) (gV uu169 uu171 uu1541 uu1 uu172) hd_X5_refused rfl ⟨rfl, rfl⟩ ⟨Nat.le_of_ble_eq_true rfl, Nat.le_of_ble_eq_true rfl⟩ ⟨Nat.le_of_ble_eq_true rfl, Nat.le_of_ble_eq_true rfl⟩ rfl rfl rfl (Nat.le_of_ble_eq_true rfl) rfl dX5_two_11 (fun _ => ?_)
    obtain rfl := Option.some.inj hf
    exact s_iret C kc hr hlk rfl rfl dX5_two_14


theorem hd_X5_chance : yX5_chance.cls = RX5 ∧ yX5_chance.cls ≠ "java/lang/invoke/MethodHandle" ∧ yX5_chance.cls ≠ "java/lang/invoke/VarHandle" ∧ (parseMethodDescriptor yX5_chance.desc).map (fun d => d.parameters.length) = some 4 := by decide +kernel
set_option maxHeartbeats 4000000 in
set_option maxRecDepth 100000 in
theorem c_X5_chance (l : Launch) (D : va_G) (cI : ClassId) (adK adV : Nat → Nat) (ad : Nat → Nat) (kc : Nat → Nat) (tolds : Int32) (hasImage : Int32) (n_heirs : Int32) (n_left : Int32) (n_bitten : Int32) (n_kinds : (Nat → Int32)) (n_figures : (Nat → Int32)) (k_heirs : Int32) (k_left : Int32) (k_bitten : Int32) (k_kinds : (Nat → Int32)) (k_figures : (Nat → Int32)) (t_heirs : Int32) (t_left : Int32) (t_bitten : Int32) (t_kinds : (Nat → Int32)) (t_figures : (Nat → Int32)) (r_gone : Int32) (r_heaps : Int32) (r_fewestCells : Int32) (r_deed : Int32) (c_ways : (Nat → Int32)) (c_fewest : (Nat → Int32)) (c_nextWays : (Nat → Int32)) (c_nextFewest : (Nat → Int32)) (x_length : Int32) (x_letters : (Nat → Int32)) (told : (Nat → Int32)) (refusals : (Nat → Int32)) (ends : (Nat → Int32)) (a1 : Int32) (a2 : Int32) (a3 : Int32) (a4 : Int32) (o : Int64 × Int32 × Int32 × Int32 × Int32 × (Nat → Int32)) (hf : f_X5_chance n_heirs n_left n_kinds n_figures r_gone r_heaps r_fewestCells r_deed refusals a1 a2 a3 a4 = some o) : Ct l D cI adK adV yX5_chance (wy yX5_chance cX5_chance 7 (some .long)) { frames := 6, cells := 0, slots := 0, locals := 145 } 0 0 [.ref (ad 0), .int a1, .int a2, .int a3, .int a4] (wX ad kc cI tolds hasImage n_heirs n_left n_bitten n_kinds n_figures k_heirs k_left k_bitten k_kinds k_figures t_heirs t_left t_bitten t_kinds t_figures r_gone r_heaps r_fewestCells r_deed c_ways c_fewest c_nextWays c_nextFewest x_length x_letters told refusals ends) (fun _ => (wX ad kc cI tolds hasImage n_heirs n_left n_bitten n_kinds n_figures k_heirs k_left k_bitten k_kinds k_figures t_heirs t_left t_bitten t_kinds t_figures o.2.1 o.2.2.1 o.2.2.2.1 o.2.2.2.2.1 c_ways c_fewest c_nextWays c_nextFewest x_length x_letters told o.2.2.2.2.2 ends)) (some (.long o.1)) := by
  refine Ct.of (cc := cX5_chance) (nL := 7) (ret := (some .long)) (own := RX5) (by decide) (Nat.le_of_ble_eq_true rfl) rfl ?_
  intro p e s m args below meth c A C hr hlk hnm
  refine s_lv (lv1 := [(0, .ref (ad 0)), (1, .int a1), (2, .int a2), (3, .int a3), (4, .int a4)]) [0, 1, 2, 3, 4] rfl ?_
  unfold f_X5_chance at hf
  refine s_aload_n C 1 0 rfl dX5_chance_0 rfl ?_
  refine s_iload_n C 2 1 rfl dX5_chance_1 rfl ?_
  obtain ⟨r1, q2, hf⟩ := bn_s hf
  refine s_callW (T := TX5) (N := 11) (ci := 4) (q0 := 0) (rest := []) C 5 (c_X5_isHeir l D cI adK adV ad kc tolds hasImage n_heirs n_left n_bitten n_kinds n_figures k_heirs k_left k_bitten k_kinds k_figures t_heirs t_left t_bitten t_kinds t_figures r_gone r_heaps r_fewestCells r_deed c_ways c_fewest c_nextWays c_nextFewest x_length x_letters told refusals ends a1 r1 q2) (gV uu511 uu513 uu1547 uu1 uu514) hd_X5_isHeir rfl ⟨rfl, rfl⟩ ⟨Nat.le_of_ble_eq_true rfl, Nat.le_of_ble_eq_true rfl⟩ ⟨Nat.le_of_ble_eq_true rfl, Nat.le_of_ble_eq_true rfl⟩ rfl rfl rfl (Nat.le_of_ble_eq_true rfl) rfl dX5_chance_2 (fun _ => ?_)
  refine s_if_ne C 19 8 rfl dX5_chance_5 rfl (fun hc41 => ?_) (fun hc41 => ?_)
  · replace hf := ite_f hc41 hf
    refine s_iload_n C 20 2 rfl dX5_chance_19 rfl ?_
    refine s_if_lt C 27 23 rfl dX5_chance_20 rfl (fun hc38 => ?_) (fun hc38 => ?_)
    · replace hf := ite_t hc38 hf
      refine s_ldc2_w C 30 rfl dX5_chance_27 uu878 ?_
      refine s_aload_n C 31 0 rfl dX5_chance_30 rfl ?_
      refine s_bipush C 33 rfl dX5_chance_31 bp_m4 ?_
      obtain ⟨r3, q4, hf⟩ := bn_s hf
      refine s_callW (T := TX5) (N := 11) (ci := 4) (q0 := 0) (rest := [.long (4000000000000000000 : Int64)]) C 36 (c_X5_refused l D cI adK adV ad kc tolds hasImage n_heirs n_left n_bitten n_kinds n_figures k_heirs k_left k_bitten k_kinds k_figures t_heirs t_left t_bitten t_kinds t_figures r_gone r_heaps r_fewestCells r_deed c_ways c_fewest c_nextWays c_nextFewest x_length x_letters told refusals ends (-4 : Int32) r3 q4) (gV uu169 uu171 uu1541 uu1 uu172) hd_X5_refused rfl ⟨rfl, rfl⟩ ⟨Nat.le_of_ble_eq_true rfl, Nat.le_of_ble_eq_true rfl⟩ ⟨Nat.le_of_ble_eq_true rfl, Nat.le_of_ble_eq_true rfl⟩ rfl rfl rfl (Nat.le_of_ble_eq_true rfl) rfl dX5_chance_33 (fun _ => ?_)
      refine s_i2l C 37 rfl dX5_chance_36 ?_
      refine s_lsub C 38 rfl dX5_chance_37 ?_
      obtain rfl := Option.some.inj hf
      exact s_lret C kc hr hlk rfl rfl dX5_chance_38
    · replace hf := ite_f hc38 hf
      refine s_iload_n C 24 3 rfl dX5_chance_23 rfl ?_
      refine s_if_ge C 39 27 rfl dX5_chance_24 rfl (fun hc37 => ?_) (fun hc37 => ?_)
      · replace hf := ite_t hc37 hf
        refine s_iload_n C 40 2 rfl dX5_chance_39 rfl ?_
        refine s_iconst C 41 rfl dX5_chance_40 ic_2 ?_
        refine s_icmp_gt C 50 44 rfl dX5_chance_41 rfl (fun hc34 => ?_) (fun hc34 => ?_)
        · replace hf := ite_t hc34 hf
          refine s_ldc2_w C 53 rfl dX5_chance_50 uu878 ?_
          refine s_aload_n C 54 0 rfl dX5_chance_53 rfl ?_
          refine s_bipush C 56 rfl dX5_chance_54 bp_m6 ?_
          obtain ⟨r5, q6, hf⟩ := bn_s hf
          refine s_callW (T := TX5) (N := 11) (ci := 4) (q0 := 0) (rest := [.long (4000000000000000000 : Int64)]) C 59 (c_X5_refused l D cI adK adV ad kc tolds hasImage n_heirs n_left n_bitten n_kinds n_figures k_heirs k_left k_bitten k_kinds k_figures t_heirs t_left t_bitten t_kinds t_figures r_gone r_heaps r_fewestCells r_deed c_ways c_fewest c_nextWays c_nextFewest x_length x_letters told refusals ends (-6 : Int32) r5 q6) (gV uu169 uu171 uu1541 uu1 uu172) hd_X5_refused rfl ⟨rfl, rfl⟩ ⟨Nat.le_of_ble_eq_true rfl, Nat.le_of_ble_eq_true rfl⟩ ⟨Nat.le_of_ble_eq_true rfl, Nat.le_of_ble_eq_true rfl⟩ rfl rfl rfl (Nat.le_of_ble_eq_true rfl) rfl dX5_chance_56 (fun _ => ?_)
          refine s_i2l C 60 rfl dX5_chance_59 ?_
          refine s_lsub C 61 rfl dX5_chance_60 ?_
          obtain rfl := Option.some.inj hf
          exact s_lret C kc hr hlk rfl rfl dX5_chance_61
        · replace hf := ite_f hc34 hf
          refine s_iload_n C 45 3 rfl dX5_chance_44 rfl ?_
          refine s_bipush C 47 rfl dX5_chance_45 bp_40 ?_
          refine s_icmp_le C 62 50 rfl dX5_chance_47 rfl (fun hc33 => ?_) (fun hc33 => ?_)
          · replace hf := ite_t hc33 hf
            refine s_iload C 64 4 rfl dX5_chance_62 rfl ?_
            obtain ⟨r7, q8, hf⟩ := bn_s hf
            refine s_callS0 (host := "") (rest := []) C 67 (c_X5_isTwofold l D cI adK adV a4 r7 q8) (gS uu601 uu603 uu1 uu604) hd_X5_isTwofold rfl ⟨rfl, rfl⟩ ⟨Nat.le_of_ble_eq_true rfl, Nat.le_of_ble_eq_true rfl⟩ ⟨Nat.le_of_ble_eq_true rfl, Nat.le_of_ble_eq_true rfl⟩ rfl (Nat.le_of_ble_eq_true rfl) rfl dX5_chance_64 ?_
            refine s_if_ne C 82 70 rfl dX5_chance_67 rfl (fun hc30 => ?_) (fun hc30 => ?_)
            · replace hf := ite_f hc30 hf
              refine s_aload_n C 83 0 rfl dX5_chance_82 rfl ?_
              refine s_get (C1 := RX5) (T := TX5) (N := 11) (ci := 4) C 86 0 0 uX5 rfl rfl (Nat.le_of_ble_eq_true rfl) uu130 rfl rfl rfl dX5_chance_83 ?_
              refine s_get (C1 := RX0) (T := TX0) (N := 5) (ci := 0) C 89 1 3 uX0 rfl rfl (Nat.le_of_ble_eq_true rfl) uu53 rfl rfl rfl dX5_chance_86 ?_
              obtain ⟨r9, q10, hf⟩ := bn_s hf
              refine s_callS0 (host := "") (rest := []) C 92 (c_J6_bitCount_0f7a4 l D cI adK adV n_left r9 q10) (gS uu487 uu489 uu15 uu490) hd_J6_bitCount_0f7a4 rfl ⟨rfl, rfl⟩ ⟨Nat.le_of_ble_eq_true rfl, Nat.le_of_ble_eq_true rfl⟩ ⟨Nat.le_of_ble_eq_true rfl, Nat.le_of_ble_eq_true rfl⟩ rfl (Nat.le_of_ble_eq_true rfl) rfl dX5_chance_89 ?_
              refine s_istore (lv1 := [(5, .int r9), (0, .ref (ad 0)), (1, .int a1), (2, .int a2), (3, .int a3), (4, .int a4)]) C 94 5 rfl dX5_chance_92 (Nat.le_of_ble_eq_true rfl) rfl ?_
              refine s_iload_n C 95 3 rfl dX5_chance_94 rfl ?_
              refine s_iload C 97 0 rfl dX5_chance_95 rfl ?_
              refine s_mmin C 100 uu722 uu315 uu11 uu316 ⟨Nat.le_of_ble_eq_true rfl, Nat.le_of_ble_eq_true rfl, Nat.le_of_ble_eq_true rfl, Nat.le_of_ble_eq_true rfl⟩ rfl dX5_chance_97 ?_
              refine s_istore (lv1 := [(6, .int (jmin a2 r9)), (5, .int r9), (0, .ref (ad 0)), (1, .int a1), (2, .int a2), (3, .int a3), (4, .int a4)]) C 102 6 rfl dX5_chance_100 (Nat.le_of_ble_eq_true rfl) rfl ?_
              refine s_iload C 104 0 rfl dX5_chance_102 rfl ?_
              refine s_if_ne C 135 107 rfl dX5_chance_104 rfl (fun hc27 => ?_) (fun hc27 => ?_)
              · replace hf := ite_f hc27 hf
                refine s_iload C 137 0 rfl dX5_chance_135 rfl ?_
                refine s_iconst C 138 rfl dX5_chance_137 ic_1 ?_
                refine s_icmp_ne C 163 141 rfl dX5_chance_138 rfl (fun hc19 => ?_) (fun hc19 => ?_)
                · replace hf := ite_f hc19 hf
                  refine s_aload_n C 164 2 rfl dX5_chance_163 rfl ?_
                  refine s_iload_n C 165 3 rfl dX5_chance_164 rfl ?_
                  refine s_iload_n C 166 5 rfl dX5_chance_165 rfl ?_
                  obtain ⟨r11, q12, hf⟩ := bn_s hf
                  refine s_callW (T := TX5) (N := 11) (ci := 4) (q0 := 0) (rest := []) C 169 (c_X5_pairsTo l D cI adK adV ad kc tolds hasImage n_heirs n_left n_bitten n_kinds n_figures k_heirs k_left k_bitten k_kinds k_figures t_heirs t_left t_bitten t_kinds t_figures r_gone r_heaps r_fewestCells r_deed c_ways c_fewest c_nextWays c_nextFewest x_length x_letters told refusals ends a1 a3 r11 q12) (gV uu890 uu892 uu1568 uu1 uu893) hd_X5_pairsTo rfl ⟨rfl, rfl⟩ ⟨Nat.le_of_ble_eq_true rfl, Nat.le_of_ble_eq_true rfl⟩ ⟨Nat.le_of_ble_eq_true rfl, Nat.le_of_ble_eq_true rfl⟩ rfl rfl rfl (Nat.le_of_ble_eq_true rfl) rfl dX5_chance_166 (fun _ => ?_)
                  refine s_iload C 171 1 rfl dX5_chance_169 rfl ?_
                  refine s_iload C 173 1 rfl dX5_chance_171 rfl ?_
                  refine s_iconst C 174 rfl dX5_chance_173 ic_1 ?_
                  refine s_isub C 175 rfl dX5_chance_174 ?_
                  refine s_imul C 176 rfl dX5_chance_175 ?_
                  refine s_iconst C 177 rfl dX5_chance_176 ic_2 ?_
                  refine s_idiv C 178 rfl dX5_chance_177 (by decide) ?_
                  refine s_iload C 180 6 rfl dX5_chance_178 rfl ?_
                  obtain ⟨r13, q14, hf⟩ := bn_s hf
                  refine s_callS0 (host := "") (rest := []) C 183 (c_X5_partOf l D cI adK adV r11.1 ((r9 * (r9 - (1 : Int32))) / (2 : Int32)) a4 r13 q14) (gS uu880 uu882 uu1 uu883) hd_X5_partOf rfl ⟨rfl, rfl⟩ ⟨Nat.le_of_ble_eq_true rfl, Nat.le_of_ble_eq_true rfl⟩ ⟨Nat.le_of_ble_eq_true rfl, Nat.le_of_ble_eq_true rfl⟩ rfl (Nat.le_of_ble_eq_true rfl) rfl dX5_chance_180 ?_
                  obtain rfl := Option.some.inj hf
                  exact s_lret C kc hr hlk rfl rfl dX5_chance_183
                · replace hf := ite_t hc19 hf
                  refine s_aload_n C 142 2 rfl dX5_chance_141 rfl ?_
                  refine s_iload_n C 143 3 rfl dX5_chance_142 rfl ?_
                  refine s_iload_n C 144 5 rfl dX5_chance_143 rfl ?_
                  refine s_aload_n C 145 2 rfl dX5_chance_144 rfl ?_
                  refine s_get (C1 := RX5) (T := TX5) (N := 11) (ci := 4) C 148 0 0 uX5 rfl rfl (Nat.le_of_ble_eq_true rfl) uu130 rfl rfl rfl dX5_chance_145 ?_
                  refine s_get (C1 := RX0) (T := TX0) (N := 5) (ci := 0) C 151 1 3 uX0 rfl rfl (Nat.le_of_ble_eq_true rfl) uu53 rfl rfl rfl dX5_chance_148 ?_
                  refine s_iconst C 152 rfl dX5_chance_151 ic_0 ?_
                  obtain ⟨r15, q16, hf⟩ := bn_s hf
                  refine s_callW (T := TX5) (N := 11) (ci := 4) (q0 := 0) (rest := []) C 155 (c_X5_singlesTo l D cI adK adV ad kc tolds hasImage n_heirs n_left n_bitten n_kinds n_figures k_heirs k_left k_bitten k_kinds k_figures t_heirs t_left t_bitten t_kinds t_figures r_gone r_heaps r_fewestCells r_deed c_ways c_fewest c_nextWays c_nextFewest x_length x_letters told refusals ends a1 a3 n_left (0 : Int32) r15 q16) (gV uu885 uu887 uu1567 uu1 uu888) hd_X5_singlesTo rfl ⟨rfl, rfl⟩ ⟨Nat.le_of_ble_eq_true rfl, Nat.le_of_ble_eq_true rfl⟩ ⟨Nat.le_of_ble_eq_true rfl, Nat.le_of_ble_eq_true rfl⟩ rfl rfl rfl (Nat.le_of_ble_eq_true rfl) rfl dX5_chance_152 (fun _ => ?_)
                  refine s_iload C 157 1 rfl dX5_chance_155 rfl ?_
                  refine s_iload C 159 6 rfl dX5_chance_157 rfl ?_
                  obtain ⟨r17, q18, hf⟩ := bn_s hf
                  refine s_callS0 (host := "") (rest := []) C 162 (c_X5_partOf l D cI adK adV r15.1 r9 a4 r17 q18) (gS uu880 uu882 uu1 uu883) hd_X5_partOf rfl ⟨rfl, rfl⟩ ⟨Nat.le_of_ble_eq_true rfl, Nat.le_of_ble_eq_true rfl⟩ ⟨Nat.le_of_ble_eq_true rfl, Nat.le_of_ble_eq_true rfl⟩ rfl (Nat.le_of_ble_eq_true rfl) rfl dX5_chance_159 ?_
                  obtain rfl := Option.some.inj hf
                  exact s_lret C kc hr hlk rfl rfl dX5_chance_162
              · replace hf := ite_t hc27 hf
                refine s_aload_n C 108 2 rfl dX5_chance_107 rfl ?_
                refine s_iload_n C 109 3 rfl dX5_chance_108 rfl ?_
                refine s_aload_n C 110 2 rfl dX5_chance_109 rfl ?_
                refine s_get (C1 := RX5) (T := TX5) (N := 11) (ci := 4) C 113 0 0 uX5 rfl rfl (Nat.le_of_ble_eq_true rfl) uu130 rfl rfl rfl dX5_chance_110 ?_
                refine s_get (C1 := RX0) (T := TX0) (N := 5) (ci := 0) C 116 1 3 uX0 rfl rfl (Nat.le_of_ble_eq_true rfl) uu53 rfl rfl rfl dX5_chance_113 ?_
                obtain ⟨r20, q21, hf⟩ := bn_s hf
                refine s_callW (T := TX5) (N := 11) (ci := 4) (q0 := 0) (rest := []) C 119 (c_X5_shareOf l D cI adK adV ad kc tolds hasImage n_heirs n_left n_bitten n_kinds n_figures k_heirs k_left k_bitten k_kinds k_figures t_heirs t_left t_bitten t_kinds t_figures r_gone r_heaps r_fewestCells r_deed c_ways c_fewest c_nextWays c_nextFewest x_length x_letters told refusals ends a1 n_left r20 q21) (gV uu516 uu518 uu1548 uu1 uu519) hd_X5_shareOf rfl ⟨rfl, rfl⟩ ⟨Nat.le_of_ble_eq_true rfl, Nat.le_of_ble_eq_true rfl⟩ ⟨Nat.le_of_ble_eq_true rfl, Nat.le_of_ble_eq_true rfl⟩ rfl rfl rfl (Nat.le_of_ble_eq_true rfl) rfl dX5_chance_116 (fun _ => ?_)
                refine s_iload_n C 120 5 rfl dX5_chance_119 rfl ?_
                refine s_icmp_lt C 127 123 rfl dX5_chance_120 rfl (fun hc26 => ?_) (fun hc26 => ?_)
                · replace hf := ite_t hc26 hf
                  refine s_iconst C 128 rfl dX5_chance_127 ic_0 ?_
                  refine s_iconst C 129 rfl dX5_chance_128 ic_1 ?_
                  refine s_iload C 131 6 rfl dX5_chance_129 rfl ?_
                  obtain ⟨r22, q23, hf⟩ := bn_s hf
                  refine s_callS0 (host := "") (rest := []) C 134 (c_X5_partOf l D cI adK adV (0 : Int32) (1 : Int32) a4 r22 q23) (gS uu880 uu882 uu1 uu883) hd_X5_partOf rfl ⟨rfl, rfl⟩ ⟨Nat.le_of_ble_eq_true rfl, Nat.le_of_ble_eq_true rfl⟩ ⟨Nat.le_of_ble_eq_true rfl, Nat.le_of_ble_eq_true rfl⟩ rfl (Nat.le_of_ble_eq_true rfl) rfl dX5_chance_131 ?_
                  obtain rfl := Option.some.inj hf
                  exact s_lret C kc hr hlk rfl rfl dX5_chance_134
                · replace hf := ite_f hc26 hf
                  refine s_iconst C 124 rfl dX5_chance_123 ic_1 ?_
                  refine s_goto C 128 dX5_chance_124 rfl ?_
                  refine s_iconst C 129 rfl dX5_chance_128 ic_1 ?_
                  refine s_iload C 131 6 rfl dX5_chance_129 rfl ?_
                  obtain ⟨r24, q25, hf⟩ := bn_s hf
                  refine s_callS0 (host := "") (rest := []) C 134 (c_X5_partOf l D cI adK adV (1 : Int32) (1 : Int32) a4 r24 q25) (gS uu880 uu882 uu1 uu883) hd_X5_partOf rfl ⟨rfl, rfl⟩ ⟨Nat.le_of_ble_eq_true rfl, Nat.le_of_ble_eq_true rfl⟩ ⟨Nat.le_of_ble_eq_true rfl, Nat.le_of_ble_eq_true rfl⟩ rfl (Nat.le_of_ble_eq_true rfl) rfl dX5_chance_131 ?_
                  obtain rfl := Option.some.inj hf
                  exact s_lret C kc hr hlk rfl rfl dX5_chance_134
            · replace hf := ite_t hc30 hf
              refine s_ldc2_w C 73 rfl dX5_chance_70 uu878 ?_
              refine s_aload_n C 74 0 rfl dX5_chance_73 rfl ?_
              refine s_bipush C 76 rfl dX5_chance_74 bp_m2 ?_
              obtain ⟨r28, q29, hf⟩ := bn_s hf
              refine s_callW (T := TX5) (N := 11) (ci := 4) (q0 := 0) (rest := [.long (4000000000000000000 : Int64)]) C 79 (c_X5_refused l D cI adK adV ad kc tolds hasImage n_heirs n_left n_bitten n_kinds n_figures k_heirs k_left k_bitten k_kinds k_figures t_heirs t_left t_bitten t_kinds t_figures r_gone r_heaps r_fewestCells r_deed c_ways c_fewest c_nextWays c_nextFewest x_length x_letters told refusals ends (-2 : Int32) r28 q29) (gV uu169 uu171 uu1541 uu1 uu172) hd_X5_refused rfl ⟨rfl, rfl⟩ ⟨Nat.le_of_ble_eq_true rfl, Nat.le_of_ble_eq_true rfl⟩ ⟨Nat.le_of_ble_eq_true rfl, Nat.le_of_ble_eq_true rfl⟩ rfl rfl rfl (Nat.le_of_ble_eq_true rfl) rfl dX5_chance_76 (fun _ => ?_)
              refine s_i2l C 80 rfl dX5_chance_79 ?_
              refine s_lsub C 81 rfl dX5_chance_80 ?_
              obtain rfl := Option.some.inj hf
              exact s_lret C kc hr hlk rfl rfl dX5_chance_81
          · replace hf := ite_f hc33 hf
            refine s_ldc2_w C 53 rfl dX5_chance_50 uu878 ?_
            refine s_aload_n C 54 0 rfl dX5_chance_53 rfl ?_
            refine s_bipush C 56 rfl dX5_chance_54 bp_m6 ?_
            obtain ⟨r31, q32, hf⟩ := bn_s hf
            refine s_callW (T := TX5) (N := 11) (ci := 4) (q0 := 0) (rest := [.long (4000000000000000000 : Int64)]) C 59 (c_X5_refused l D cI adK adV ad kc tolds hasImage n_heirs n_left n_bitten n_kinds n_figures k_heirs k_left k_bitten k_kinds k_figures t_heirs t_left t_bitten t_kinds t_figures r_gone r_heaps r_fewestCells r_deed c_ways c_fewest c_nextWays c_nextFewest x_length x_letters told refusals ends (-6 : Int32) r31 q32) (gV uu169 uu171 uu1541 uu1 uu172) hd_X5_refused rfl ⟨rfl, rfl⟩ ⟨Nat.le_of_ble_eq_true rfl, Nat.le_of_ble_eq_true rfl⟩ ⟨Nat.le_of_ble_eq_true rfl, Nat.le_of_ble_eq_true rfl⟩ rfl rfl rfl (Nat.le_of_ble_eq_true rfl) rfl dX5_chance_56 (fun _ => ?_)
            refine s_i2l C 60 rfl dX5_chance_59 ?_
            refine s_lsub C 61 rfl dX5_chance_60 ?_
            obtain rfl := Option.some.inj hf
            exact s_lret C kc hr hlk rfl rfl dX5_chance_61
      · replace hf := ite_f hc37 hf
        refine s_ldc2_w C 30 rfl dX5_chance_27 uu878 ?_
        refine s_aload_n C 31 0 rfl dX5_chance_30 rfl ?_
        refine s_bipush C 33 rfl dX5_chance_31 bp_m4 ?_
        obtain ⟨r35, q36, hf⟩ := bn_s hf
        refine s_callW (T := TX5) (N := 11) (ci := 4) (q0 := 0) (rest := [.long (4000000000000000000 : Int64)]) C 36 (c_X5_refused l D cI adK adV ad kc tolds hasImage n_heirs n_left n_bitten n_kinds n_figures k_heirs k_left k_bitten k_kinds k_figures t_heirs t_left t_bitten t_kinds t_figures r_gone r_heaps r_fewestCells r_deed c_ways c_fewest c_nextWays c_nextFewest x_length x_letters told refusals ends (-4 : Int32) r35 q36) (gV uu169 uu171 uu1541 uu1 uu172) hd_X5_refused rfl ⟨rfl, rfl⟩ ⟨Nat.le_of_ble_eq_true rfl, Nat.le_of_ble_eq_true rfl⟩ ⟨Nat.le_of_ble_eq_true rfl, Nat.le_of_ble_eq_true rfl⟩ rfl rfl rfl (Nat.le_of_ble_eq_true rfl) rfl dX5_chance_33 (fun _ => ?_)
        refine s_i2l C 37 rfl dX5_chance_36 ?_
        refine s_lsub C 38 rfl dX5_chance_37 ?_
        obtain rfl := Option.some.inj hf
        exact s_lret C kc hr hlk rfl rfl dX5_chance_38
  · replace hf := ite_t hc41 hf
    refine s_ldc2_w C 11 rfl dX5_chance_8 uu878 ?_
    refine s_aload_n C 12 0 rfl dX5_chance_11 rfl ?_
    refine s_iconst C 13 rfl dX5_chance_12 ic_m1 ?_
    obtain ⟨r39, q40, hf⟩ := bn_s hf
    refine s_callW (T := TX5) (N := 11) (ci := 4) (q0 := 0) (rest := [.long (4000000000000000000 : Int64)]) C 16 (c_X5_refused l D cI adK adV ad kc tolds hasImage n_heirs n_left n_bitten n_kinds n_figures k_heirs k_left k_bitten k_kinds k_figures t_heirs t_left t_bitten t_kinds t_figures r_gone r_heaps r_fewestCells r_deed c_ways c_fewest c_nextWays c_nextFewest x_length x_letters told refusals ends (-1 : Int32) r39 q40) (gV uu169 uu171 uu1541 uu1 uu172) hd_X5_refused rfl ⟨rfl, rfl⟩ ⟨Nat.le_of_ble_eq_true rfl, Nat.le_of_ble_eq_true rfl⟩ ⟨Nat.le_of_ble_eq_true rfl, Nat.le_of_ble_eq_true rfl⟩ rfl rfl rfl (Nat.le_of_ble_eq_true rfl) rfl dX5_chance_13 (fun _ => ?_)
    refine s_i2l C 17 rfl dX5_chance_16 ?_
    refine s_lsub C 18 rfl dX5_chance_17 ?_
    obtain rfl := Option.some.inj hf
    exact s_lret C kc hr hlk rfl rfl dX5_chance_18


theorem hd_X5_core : yX5_core.cls = RX5 ∧ yX5_core.cls ≠ "java/lang/invoke/MethodHandle" ∧ yX5_core.cls ≠ "java/lang/invoke/VarHandle" ∧ (parseMethodDescriptor yX5_core.desc).map (fun d => d.parameters.length) = some 0 := by decide +kernel
set_option maxHeartbeats 4000000 in
set_option maxRecDepth 100000 in
theorem c_X5_core (l : Launch) (D : va_G) (cI : ClassId) (adK adV : Nat → Nat) (ad : Nat → Nat) (kc : Nat → Nat) (tolds : Int32) (hasImage : Int32) (n_heirs : Int32) (n_left : Int32) (n_bitten : Int32) (n_kinds : (Nat → Int32)) (n_figures : (Nat → Int32)) (k_heirs : Int32) (k_left : Int32) (k_bitten : Int32) (k_kinds : (Nat → Int32)) (k_figures : (Nat → Int32)) (t_heirs : Int32) (t_left : Int32) (t_bitten : Int32) (t_kinds : (Nat → Int32)) (t_figures : (Nat → Int32)) (r_gone : Int32) (r_heaps : Int32) (r_fewestCells : Int32) (r_deed : Int32) (c_ways : (Nat → Int32)) (c_fewest : (Nat → Int32)) (c_nextWays : (Nat → Int32)) (c_nextFewest : (Nat → Int32)) (x_length : Int32) (x_letters : (Nat → Int32)) (told : (Nat → Int32)) (refusals : (Nat → Int32)) (ends : (Nat → Int32))  (o : Int32 × Int32 × Int32 × Int32 × (Nat → Int32) × (Nat → Int32) × Int32 × Int32 × Int32 × (Nat → Int32) × (Nat → Int32) × Int32) (hf : f_X5_core n_heirs n_left n_bitten n_kinds n_figures t_heirs t_left t_bitten t_kinds t_figures x_length x_letters = some o) : Ct l D cI adK adV yX5_core (wy yX5_core cX5_core 2 (some .int)) { frames := 7, cells := 0, slots := 0, locals := 160 } 0 0 [.ref (ad 0)] (wX ad kc cI tolds hasImage n_heirs n_left n_bitten n_kinds n_figures k_heirs k_left k_bitten k_kinds k_figures t_heirs t_left t_bitten t_kinds t_figures r_gone r_heaps r_fewestCells r_deed c_ways c_fewest c_nextWays c_nextFewest x_length x_letters told refusals ends) (fun _ => (wX ad kc cI tolds hasImage o.2.1 o.2.2.1 o.2.2.2.1 o.2.2.2.2.1 o.2.2.2.2.2.1 k_heirs k_left k_bitten k_kinds k_figures o.2.2.2.2.2.2.1 o.2.2.2.2.2.2.2.1 o.2.2.2.2.2.2.2.2.1 o.2.2.2.2.2.2.2.2.2.1 o.2.2.2.2.2.2.2.2.2.2.1 r_gone r_heaps r_fewestCells r_deed c_ways c_fewest c_nextWays c_nextFewest o.2.2.2.2.2.2.2.2.2.2.2 x_letters told refusals ends)) (some (.int o.1)) := by
  refine Ct.of (cc := cX5_core) (nL := 2) (ret := (some .int)) (own := RX5) (by decide) (Nat.le_of_ble_eq_true rfl) rfl ?_
  intro p e s m args below meth c A C hr hlk hnm
  refine s_lv (lv1 := [(0, .ref (ad 0))]) [0] rfl ?_
  unfold f_X5_core at hf
  refine s_aload_n C 1 0 rfl dX5_core_0 rfl ?_
  obtain ⟨r1, q2, hf⟩ := bn_s hf
  refine s_callW (T := TX5) (N := 11) (ci := 4) (q0 := 0) (rest := []) C 4 (c_X5_trialOfText l D cI adK adV ad kc tolds hasImage n_heirs n_left n_bitten n_kinds n_figures k_heirs k_left k_bitten k_kinds k_figures t_heirs t_left t_bitten t_kinds t_figures r_gone r_heaps r_fewestCells r_deed c_ways c_fewest c_nextWays c_nextFewest x_length x_letters told refusals ends r1 q2) (gV uu186 uu188 uu1542 uu1 uu189) hd_X5_trialOfText rfl ⟨rfl, rfl⟩ ⟨Nat.le_of_ble_eq_true rfl, Nat.le_of_ble_eq_true rfl⟩ ⟨Nat.le_of_ble_eq_true rfl, Nat.le_of_ble_eq_true rfl⟩ rfl rfl rfl (Nat.le_of_ble_eq_true rfl) rfl dX5_core_1 (fun _ => ?_)
  refine s_istore_n (lv1 := [(1, .int r1.1), (0, .ref (ad 0))]) C 5 1 rfl dX5_core_4 rfl (Nat.le_of_ble_eq_true rfl) rfl ?_
  refine s_iload_n C 6 0 rfl dX5_core_5 rfl ?_
  refine s_bn (α := Int32 × (Nat → Int32) × Int32 × (Nat → Int32) × Int32) 20 (fun j3 => [(0, .ref (ad 0)), (1, .int r1.1)]) (fun j3 => []) (fun j3 => (wX ad kc cI tolds hasImage j3.2.2.1 j3.2.2.2.2 j3.1 j3.2.2.2.1 j3.2.1 k_heirs k_left k_bitten k_kinds k_figures r1.2.1 r1.2.2.1 r1.2.2.2.1 r1.2.2.2.2.1 r1.2.2.2.2.2 r_gone r_heaps r_fewestCells r_deed c_ways c_fewest c_nextWays c_nextFewest x_length x_letters told refusals ends)) hf (fun j3 hf => ?_) (fun hj hf => ?_)
  · refine s_aload_n C 21 0 rfl dX5_core_20 rfl ?_
    refine s_get (C1 := RX5) (T := TX5) (N := 11) (ci := 4) C 24 0 5 uX5 rfl rfl (Nat.le_of_ble_eq_true rfl) uu140 rfl rfl rfl dX5_core_21 ?_
    refine s_iconst C 25 rfl dX5_core_24 ic_0 ?_
    refine s_put (C1 := RX4) (T := TX4) (N := 2) (ci := 3) (ty := tyX4 1) (ws1 := (wX ad kc cI tolds hasImage j3.2.2.1 j3.2.2.2.2 j3.1 j3.2.2.2.1 j3.2.1 k_heirs k_left k_bitten k_kinds k_figures r1.2.1 r1.2.2.1 r1.2.2.2.1 r1.2.2.2.2.1 r1.2.2.2.2.2 r_gone r_heaps r_fewestCells r_deed c_ways c_fewest c_nextWays c_nextFewest (0 : Int32) x_letters told refusals ends)) C 28 16 1 uX4 tyX4 tyX4_ok nmX4 rfl rfl (Nat.le_of_ble_eq_true rfl) uu126 rfl rfl (tyX4_ok 1 (Nat.le_of_ble_eq_true rfl)) ⟨rfl, rfl⟩ (Nat.le_of_ble_eq_true rfl) rfl rfl dX5_core_25 ?_
    refine s_iload_n C 29 1 rfl dX5_core_28 rfl ?_
    obtain rfl := Option.some.inj hf
    exact s_iret C kc hr hlk rfl rfl dX5_core_29
  · refine s_if_lt C 20 9 rfl dX5_core_6 rfl (fun hc6 => ?_) (fun hc6 => ?_)
    · replace hf := bn_t hc6 hf
      replace hf := bn_i hf
      exact s_lv [1, 0] rfl (hj ((n_bitten, n_figures, n_heirs, n_kinds, n_left) : Int32 × (Nat → Int32) × Int32 × (Nat → Int32) × Int32) hf)
    · replace hf := bn_f hc6 hf
      refine s_aload_n C 10 1 rfl dX5_core_9 rfl ?_
      refine s_get (C1 := RX5) (T := TX5) (N := 11) (ci := 4) C 13 0 0 uX5 rfl rfl (Nat.le_of_ble_eq_true rfl) uu130 rfl rfl rfl dX5_core_10 ?_
      refine s_aload_n C 14 1 rfl dX5_core_13 rfl ?_
      refine s_get (C1 := RX5) (T := TX5) (N := 11) (ci := 4) C 17 0 2 uX5 rfl rfl (Nat.le_of_ble_eq_true rfl) uu134 rfl rfl rfl dX5_core_14 ?_
      obtain ⟨r4, q5, hf⟩ := bn_b hf
      refine s_callV (T := TX0) (N := 5) (ci := 0) (q0 := 1) (rest := []) (wr := [((ad 0), .inr (4, [.ref (ad 1), .ref (ad 4), .ref (ad 7), .ref (ad 10), .ref (ad 11), .ref (ad 12), .ref (ad 14), .ref (ad 15), .ref (ad 16), .int tolds, .int hasImage])), ((ad 4), .inr (0, [.ref (ad 5), .ref (ad 6), .int k_heirs, .int k_left, .int k_bitten])), ((ad 5), .inl (cI, 5, .inl k_kinds)), ((ad 6), .inl (cI, 5, .inl k_figures)), ((ad 10), .inr (2, [.int r_gone, .int r_heaps, .int r_fewestCells, .int r_deed])), ((ad 11), .inr (1, [.ref (kc 0), .ref (kc 1), .ref (kc 2), .ref (kc 3)])), ((kc 0), .inl (cI, 64, .inl c_ways)), ((kc 1), .inl (cI, 64, .inl c_fewest)), ((kc 2), .inl (cI, 64, .inl c_nextWays)), ((kc 3), .inl (cI, 64, .inl c_nextFewest)), ((ad 12), .inr (3, [.ref (ad 13), .int x_length])), ((ad 13), .inl (cI, 96, .inl x_letters)), ((ad 14), .inl (cI, 16, .inl told)), ((ad 15), .inl (cI, 7, .inl refusals)), ((ad 16), .inl (cI, 4, .inl ends))]) (ws2 := fun _ => (wX ad kc cI tolds hasImage r4.1 r4.2.1 r4.2.2.1 r4.2.2.2.1 r4.2.2.2.2 k_heirs k_left k_bitten k_kinds k_figures r1.2.1 r1.2.2.1 r1.2.2.2.1 r1.2.2.2.2.1 r1.2.2.2.2.2 r_gone r_heaps r_fewestCells r_deed c_ways c_fewest c_nextWays c_nextFewest x_length x_letters told refusals ends)) C 20 (c_X0_becomes l D cI adK adV (ad 1) (ad 2) (ad 3) (ad 7) (ad 8) (ad 9) n_heirs n_left n_bitten n_kinds n_figures r1.2.1 r1.2.2.1 r1.2.2.2.1 r1.2.2.2.2.1 r1.2.2.2.2.2 r4 q5) (gV uu383 uu385 uu386 uu2 uu387) hd_X0_becomes rfl ⟨rfl, rfl⟩ ⟨Nat.le_of_ble_eq_true rfl, Nat.le_of_ble_eq_true rfl⟩ ⟨Nat.le_of_ble_eq_true rfl, Nat.le_of_ble_eq_true rfl⟩ rfl rfl rfl (Nat.le_of_ble_eq_true rfl) [1, 2, 3, 7, 8, 9] [0, 4, 5, 6, 10, 11, 12, 13, 14, 15, 16, 17, 18, 19, 20] [0, 15, 16, 17, 1, 2, 3, 18, 19, 20, 4, 5, 6, 7, 8, 9, 10, 11, 12, 13, 14] rfl rfl rfl rfl (by decide) rfl (fun _ => rfl) (fun _ => rfl) rfl dX5_core_17 (fun _ => ?_)
      replace hf := bn_i hf
      exact s_lv [1, 0] rfl (hj ((r4.2.2.1, r4.2.2.2.2, r4.1, r4.2.2.2.1, r4.2.1) : Int32 × (Nat → Int32) × Int32 × (Nat → Int32) × Int32) hf)

