
theorem hd_X5_refused : yX5_refused.cls = RX5 ∧ yX5_refused.cls ≠ "java/lang/invoke/MethodHandle" ∧ yX5_refused.cls ≠ "java/lang/invoke/VarHandle" ∧ (parseMethodDescriptor yX5_refused.desc).map (fun d => d.parameters.length) = some 1 := by decide +kernel
set_option maxHeartbeats 4000000 in
set_option maxRecDepth 100000 in
theorem c_X5_refused (l : Launch) (D : va_G) (cI : ClassId) (adK adV : Nat → Nat) (ad : Nat → Nat) (kc : Nat → Nat) (tolds : Int32) (hasImage : Int32) (n_heirs : Int32) (n_left : Int32) (n_bitten : Int32) (n_kinds : (Nat → Int32)) (n_figures : (Nat → Int32)) (k_heirs : Int32) (k_left : Int32) (k_bitten : Int32) (k_kinds : (Nat → Int32)) (k_figures : (Nat → Int32)) (t_heirs : Int32) (t_left : Int32) (t_bitten : Int32) (t_kinds : (Nat → Int32)) (t_figures : (Nat → Int32)) (r_gone : Int32) (r_heaps : Int32) (r_fewestCells : Int32) (r_deed : Int32) (c_ways : (Nat → Int32)) (c_fewest : (Nat → Int32)) (c_nextWays : (Nat → Int32)) (c_nextFewest : (Nat → Int32)) (x_length : Int32) (x_letters : (Nat → Int32)) (told : (Nat → Int32)) (refusals : (Nat → Int32)) (ends : (Nat → Int32)) (a1 : Int32) (o : Int32 × (Nat → Int32)) (hf : f_X5_refused refusals a1 = some o) : Ct l D cI adK adV yX5_refused (wy yX5_refused cX5_refused 2 (some .int)) { frames := 0, cells := 0, slots := 0, locals := 0 } 0 0 [.ref (ad 0), .int a1] (wX ad kc cI tolds hasImage n_heirs n_left n_bitten n_kinds n_figures k_heirs k_left k_bitten k_kinds k_figures t_heirs t_left t_bitten t_kinds t_figures r_gone r_heaps r_fewestCells r_deed c_ways c_fewest c_nextWays c_nextFewest x_length x_letters told refusals ends) (fun _ => (wX ad kc cI tolds hasImage n_heirs n_left n_bitten n_kinds n_figures k_heirs k_left k_bitten k_kinds k_figures t_heirs t_left t_bitten t_kinds t_figures r_gone r_heaps r_fewestCells r_deed c_ways c_fewest c_nextWays c_nextFewest x_length x_letters told o.2 ends)) (some (.int o.1)) := by
  refine Ct.of (cc := cX5_refused) (nL := 2) (ret := (some .int)) (own := RX5) (by decide) (Nat.le_of_ble_eq_true rfl) rfl ?_
  intro p e s m args below meth c A C hr hlk hnm
  refine s_lv (lv1 := [(0, .ref (ad 0)), (1, .int a1)]) [0, 1] rfl ?_
  unfold f_X5_refused at hf
  refine s_aload_n C 1 0 rfl dX5_refused_0 rfl ?_
  refine s_get (C1 := RX5) (T := TX5) (N := 11) (ci := 4) C 4 0 7 uX5 rfl rfl (Nat.le_of_ble_eq_true rfl) uu144 rfl rfl rfl dX5_refused_1 ?_
  refine s_iload_n C 5 1 rfl dX5_refused_4 rfl ?_
  refine s_ineg C 6 rfl dX5_refused_5 ?_
  refine s_dup2 C 7 rfl dX5_refused_6 rfl rfl ?_
  obtain ⟨h1, hf⟩ := ck_in hf
  refine s_iald C 8 19 rfl h1 rfl dX5_refused_7 ?_
  refine s_iconst C 9 rfl dX5_refused_8 ic_1 ?_
  refine s_iadd C 10 rfl dX5_refused_9 ?_
  obtain ⟨h2, hf⟩ := ck_in hf
  refine s_iast (ws1 := (wX ad kc cI tolds hasImage n_heirs n_left n_bitten n_kinds n_figures k_heirs k_left k_bitten k_kinds k_figures t_heirs t_left t_bitten t_kinds t_figures r_gone r_heaps r_fewestCells r_deed c_ways c_fewest c_nextWays c_nextFewest x_length x_letters told (upd refusals (-a1).toNatClampNeg ((refusals (-a1).toNatClampNeg) + (1 : Int32))) ends)) C 11 19 rfl h2 rfl rfl dX5_refused_10 ?_
  refine s_iload_n C 12 1 rfl dX5_refused_11 rfl ?_
  obtain rfl := Option.some.inj hf
  exact s_iret C kc hr hlk rfl rfl dX5_refused_12


theorem hd_X5_isHeir : yX5_isHeir.cls = RX5 ∧ yX5_isHeir.cls ≠ "java/lang/invoke/MethodHandle" ∧ yX5_isHeir.cls ≠ "java/lang/invoke/VarHandle" ∧ (parseMethodDescriptor yX5_isHeir.desc).map (fun d => d.parameters.length) = some 1 := by decide +kernel
set_option maxHeartbeats 4000000 in
set_option maxRecDepth 100000 in
theorem c_X5_isHeir (l : Launch) (D : va_G) (cI : ClassId) (adK adV : Nat → Nat) (ad : Nat → Nat) (kc : Nat → Nat) (tolds : Int32) (hasImage : Int32) (n_heirs : Int32) (n_left : Int32) (n_bitten : Int32) (n_kinds : (Nat → Int32)) (n_figures : (Nat → Int32)) (k_heirs : Int32) (k_left : Int32) (k_bitten : Int32) (k_kinds : (Nat → Int32)) (k_figures : (Nat → Int32)) (t_heirs : Int32) (t_left : Int32) (t_bitten : Int32) (t_kinds : (Nat → Int32)) (t_figures : (Nat → Int32)) (r_gone : Int32) (r_heaps : Int32) (r_fewestCells : Int32) (r_deed : Int32) (c_ways : (Nat → Int32)) (c_fewest : (Nat → Int32)) (c_nextWays : (Nat → Int32)) (c_nextFewest : (Nat → Int32)) (x_length : Int32) (x_letters : (Nat → Int32)) (told : (Nat → Int32)) (refusals : (Nat → Int32)) (ends : (Nat → Int32)) (a1 : Int32) (o : Int32) (hf : f_X5_isHeir n_heirs a1 = some o) : Ct l D cI adK adV yX5_isHeir (wy yX5_isHeir cX5_isHeir 2 (some .boolean)) { frames := 0, cells := 0, slots := 0, locals := 0 } 0 0 [.ref (ad 0), .int a1] (wX ad kc cI tolds hasImage n_heirs n_left n_bitten n_kinds n_figures k_heirs k_left k_bitten k_kinds k_figures t_heirs t_left t_bitten t_kinds t_figures r_gone r_heaps r_fewestCells r_deed c_ways c_fewest c_nextWays c_nextFewest x_length x_letters told refusals ends) (fun _ => (wX ad kc cI tolds hasImage n_heirs n_left n_bitten n_kinds n_figures k_heirs k_left k_bitten k_kinds k_figures t_heirs t_left t_bitten t_kinds t_figures r_gone r_heaps r_fewestCells r_deed c_ways c_fewest c_nextWays c_nextFewest x_length x_letters told refusals ends)) (some (.int o)) := by
  refine Ct.of (cc := cX5_isHeir) (nL := 2) (ret := (some .boolean)) (own := RX5) (by decide) (Nat.le_of_ble_eq_true rfl) rfl ?_
  intro p e s m args below meth c A C hr hlk hnm
  refine s_lv (lv1 := [(0, .ref (ad 0)), (1, .int a1)]) [0, 1] rfl ?_
  unfold f_X5_isHeir at hf
  refine s_iload_n C 1 1 rfl dX5_isHeir_0 rfl ?_
  refine s_if_lt C 19 4 rfl dX5_isHeir_1 rfl (fun hc2 => ?_) (fun hc2 => ?_)
  · replace hf := ite_t hc2 hf
    refine s_iconst C 20 rfl dX5_isHeir_19 ic_0 ?_
    obtain rfl := Option.some.inj hf
    exact s_zret C kc hr hlk (Or.inl rfl) rfl rfl dX5_isHeir_20
  · replace hf := ite_f hc2 hf
    refine s_iload_n C 5 1 rfl dX5_isHeir_4 rfl ?_
    refine s_aload_n C 6 0 rfl dX5_isHeir_5 rfl ?_
    refine s_get (C1 := RX5) (T := TX5) (N := 11) (ci := 4) C 9 0 0 uX5 rfl rfl (Nat.le_of_ble_eq_true rfl) uu130 rfl rfl rfl dX5_isHeir_6 ?_
    refine s_get (C1 := RX0) (T := TX0) (N := 5) (ci := 0) C 12 1 2 uX0 rfl rfl (Nat.le_of_ble_eq_true rfl) uu49 rfl rfl rfl dX5_isHeir_9 ?_
    refine s_icmp_ge C 19 15 rfl dX5_isHeir_12 rfl (fun hc1 => ?_) (fun hc1 => ?_)
    · replace hf := ite_t hc1 hf
      refine s_iconst C 20 rfl dX5_isHeir_19 ic_0 ?_
      obtain rfl := Option.some.inj hf
      exact s_zret C kc hr hlk (Or.inl rfl) rfl rfl dX5_isHeir_20
    · replace hf := ite_f hc1 hf
      refine s_iconst C 16 rfl dX5_isHeir_15 ic_1 ?_
      refine s_goto C 20 dX5_isHeir_16 rfl ?_
      obtain rfl := Option.some.inj hf
      exact s_zret C kc hr hlk (Or.inr rfl) rfl rfl dX5_isHeir_20


theorem hd_X5_areTwo : yX5_areTwo.cls = RX5 ∧ yX5_areTwo.cls ≠ "java/lang/invoke/MethodHandle" ∧ yX5_areTwo.cls ≠ "java/lang/invoke/VarHandle" ∧ (parseMethodDescriptor yX5_areTwo.desc).map (fun d => d.parameters.length) = some 2 := by decide +kernel
set_option maxHeartbeats 4000000 in
set_option maxRecDepth 100000 in
theorem c_X5_areTwo (l : Launch) (D : va_G) (cI : ClassId) (adK adV : Nat → Nat) (ad : Nat → Nat) (kc : Nat → Nat) (tolds : Int32) (hasImage : Int32) (n_heirs : Int32) (n_left : Int32) (n_bitten : Int32) (n_kinds : (Nat → Int32)) (n_figures : (Nat → Int32)) (k_heirs : Int32) (k_left : Int32) (k_bitten : Int32) (k_kinds : (Nat → Int32)) (k_figures : (Nat → Int32)) (t_heirs : Int32) (t_left : Int32) (t_bitten : Int32) (t_kinds : (Nat → Int32)) (t_figures : (Nat → Int32)) (r_gone : Int32) (r_heaps : Int32) (r_fewestCells : Int32) (r_deed : Int32) (c_ways : (Nat → Int32)) (c_fewest : (Nat → Int32)) (c_nextWays : (Nat → Int32)) (c_nextFewest : (Nat → Int32)) (x_length : Int32) (x_letters : (Nat → Int32)) (told : (Nat → Int32)) (refusals : (Nat → Int32)) (ends : (Nat → Int32)) (a1 : Int32) (a2 : Int32) (o : Int32) (hf : f_X5_areTwo n_heirs a1 a2 = some o) : Ct l D cI adK adV yX5_areTwo (wy yX5_areTwo cX5_areTwo 3 (some .boolean)) { frames := 1, cells := 0, slots := 0, locals := 21 } 0 0 [.ref (ad 0), .int a1, .int a2] (wX ad kc cI tolds hasImage n_heirs n_left n_bitten n_kinds n_figures k_heirs k_left k_bitten k_kinds k_figures t_heirs t_left t_bitten t_kinds t_figures r_gone r_heaps r_fewestCells r_deed c_ways c_fewest c_nextWays c_nextFewest x_length x_letters told refusals ends) (fun _ => (wX ad kc cI tolds hasImage n_heirs n_left n_bitten n_kinds n_figures k_heirs k_left k_bitten k_kinds k_figures t_heirs t_left t_bitten t_kinds t_figures r_gone r_heaps r_fewestCells r_deed c_ways c_fewest c_nextWays c_nextFewest x_length x_letters told refusals ends)) (some (.int o)) := by
  refine Ct.of (cc := cX5_areTwo) (nL := 3) (ret := (some .boolean)) (own := RX5) (by decide) (Nat.le_of_ble_eq_true rfl) rfl ?_
  intro p e s m args below meth c A C hr hlk hnm
  refine s_lv (lv1 := [(0, .ref (ad 0)), (1, .int a1), (2, .int a2)]) [0, 1, 2] rfl ?_
  unfold f_X5_areTwo at hf
  refine s_aload_n C 1 0 rfl dX5_areTwo_0 rfl ?_
  refine s_iload_n C 2 1 rfl dX5_areTwo_1 rfl ?_
  obtain ⟨r1, q2, hf⟩ := bn_s hf
  refine s_callW (T := TX5) (N := 11) (ci := 4) (q0 := 0) (rest := []) C 5 (c_X5_isHeir l D cI adK adV ad kc tolds hasImage n_heirs n_left n_bitten n_kinds n_figures k_heirs k_left k_bitten k_kinds k_figures t_heirs t_left t_bitten t_kinds t_figures r_gone r_heaps r_fewestCells r_deed c_ways c_fewest c_nextWays c_nextFewest x_length x_letters told refusals ends a1 r1 q2) (gV uu511 uu513 uu1547 uu1 uu514) hd_X5_isHeir rfl ⟨rfl, rfl⟩ ⟨Nat.le_of_ble_eq_true rfl, Nat.le_of_ble_eq_true rfl⟩ ⟨Nat.le_of_ble_eq_true rfl, Nat.le_of_ble_eq_true rfl⟩ rfl rfl rfl (Nat.le_of_ble_eq_true rfl) rfl dX5_areTwo_2 (fun _ => ?_)
  refine s_if_eq C 25 8 rfl dX5_areTwo_5 rfl (fun hc7 => ?_) (fun hc7 => ?_)
  · replace hf := ite_t hc7 hf
    refine s_iconst C 26 rfl dX5_areTwo_25 ic_0 ?_
    obtain rfl := Option.some.inj hf
    exact s_zret C kc hr hlk (Or.inl rfl) rfl rfl dX5_areTwo_26
  · replace hf := ite_f hc7 hf
    refine s_aload_n C 9 0 rfl dX5_areTwo_8 rfl ?_
    refine s_iload_n C 10 2 rfl dX5_areTwo_9 rfl ?_
    obtain ⟨r3, q4, hf⟩ := bn_s hf
    refine s_callW (T := TX5) (N := 11) (ci := 4) (q0 := 0) (rest := []) C 13 (c_X5_isHeir l D cI adK adV ad kc tolds hasImage n_heirs n_left n_bitten n_kinds n_figures k_heirs k_left k_bitten k_kinds k_figures t_heirs t_left t_bitten t_kinds t_figures r_gone r_heaps r_fewestCells r_deed c_ways c_fewest c_nextWays c_nextFewest x_length x_letters told refusals ends a2 r3 q4) (gV uu511 uu513 uu1547 uu1 uu514) hd_X5_isHeir rfl ⟨rfl, rfl⟩ ⟨Nat.le_of_ble_eq_true rfl, Nat.le_of_ble_eq_true rfl⟩ ⟨Nat.le_of_ble_eq_true rfl, Nat.le_of_ble_eq_true rfl⟩ rfl rfl rfl (Nat.le_of_ble_eq_true rfl) rfl dX5_areTwo_10 (fun _ => ?_)
    refine s_if_eq C 25 16 rfl dX5_areTwo_13 rfl (fun hc6 => ?_) (fun hc6 => ?_)
    · replace hf := ite_t hc6 hf
      refine s_iconst C 26 rfl dX5_areTwo_25 ic_0 ?_
      obtain rfl := Option.some.inj hf
      exact s_zret C kc hr hlk (Or.inl rfl) rfl rfl dX5_areTwo_26
    · replace hf := ite_f hc6 hf
      refine s_iload_n C 17 1 rfl dX5_areTwo_16 rfl ?_
      refine s_iload_n C 18 2 rfl dX5_areTwo_17 rfl ?_
      refine s_icmp_eq C 25 21 rfl dX5_areTwo_18 rfl (fun hc5 => ?_) (fun hc5 => ?_)
      · replace hf := ite_t hc5 hf
        refine s_iconst C 26 rfl dX5_areTwo_25 ic_0 ?_
        obtain rfl := Option.some.inj hf
        exact s_zret C kc hr hlk (Or.inl rfl) rfl rfl dX5_areTwo_26
      · replace hf := ite_f hc5 hf
        refine s_iconst C 22 rfl dX5_areTwo_21 ic_1 ?_
        refine s_goto C 26 dX5_areTwo_22 rfl ?_
        obtain rfl := Option.some.inj hf
        exact s_zret C kc hr hlk (Or.inr rfl) rfl rfl dX5_areTwo_26


theorem hd_X5_isLeft : yX5_isLeft.cls = RX5 ∧ yX5_isLeft.cls ≠ "java/lang/invoke/MethodHandle" ∧ yX5_isLeft.cls ≠ "java/lang/invoke/VarHandle" ∧ (parseMethodDescriptor yX5_isLeft.desc).map (fun d => d.parameters.length) = some 1 := by decide +kernel
set_option maxHeartbeats 4000000 in
set_option maxRecDepth 100000 in
theorem c_X5_isLeft (l : Launch) (D : va_G) (cI : ClassId) (adK adV : Nat → Nat) (ad : Nat → Nat) (kc : Nat → Nat) (tolds : Int32) (hasImage : Int32) (n_heirs : Int32) (n_left : Int32) (n_bitten : Int32) (n_kinds : (Nat → Int32)) (n_figures : (Nat → Int32)) (k_heirs : Int32) (k_left : Int32) (k_bitten : Int32) (k_kinds : (Nat → Int32)) (k_figures : (Nat → Int32)) (t_heirs : Int32) (t_left : Int32) (t_bitten : Int32) (t_kinds : (Nat → Int32)) (t_figures : (Nat → Int32)) (r_gone : Int32) (r_heaps : Int32) (r_fewestCells : Int32) (r_deed : Int32) (c_ways : (Nat → Int32)) (c_fewest : (Nat → Int32)) (c_nextWays : (Nat → Int32)) (c_nextFewest : (Nat → Int32)) (x_length : Int32) (x_letters : (Nat → Int32)) (told : (Nat → Int32)) (refusals : (Nat → Int32)) (ends : (Nat → Int32)) (a1 : Int32) (o : Int32) (hf : f_X5_isLeft n_left a1 = some o) : Ct l D cI adK adV yX5_isLeft (wy yX5_isLeft cX5_isLeft 2 (some .boolean)) { frames := 0, cells := 0, slots := 0, locals := 0 } 0 0 [.ref (ad 0), .int a1] (wX ad kc cI tolds hasImage n_heirs n_left n_bitten n_kinds n_figures k_heirs k_left k_bitten k_kinds k_figures t_heirs t_left t_bitten t_kinds t_figures r_gone r_heaps r_fewestCells r_deed c_ways c_fewest c_nextWays c_nextFewest x_length x_letters told refusals ends) (fun _ => (wX ad kc cI tolds hasImage n_heirs n_left n_bitten n_kinds n_figures k_heirs k_left k_bitten k_kinds k_figures t_heirs t_left t_bitten t_kinds t_figures r_gone r_heaps r_fewestCells r_deed c_ways c_fewest c_nextWays c_nextFewest x_length x_letters told refusals ends)) (some (.int o)) := by
  refine Ct.of (cc := cX5_isLeft) (nL := 2) (ret := (some .boolean)) (own := RX5) (by decide) (Nat.le_of_ble_eq_true rfl) rfl ?_
  intro p e s m args below meth c A C hr hlk hnm
  refine s_lv (lv1 := [(0, .ref (ad 0)), (1, .int a1)]) [0, 1] rfl ?_
  unfold f_X5_isLeft at hf
  refine s_aload_n C 1 0 rfl dX5_isLeft_0 rfl ?_
  refine s_get (C1 := RX5) (T := TX5) (N := 11) (ci := 4) C 4 0 0 uX5 rfl rfl (Nat.le_of_ble_eq_true rfl) uu130 rfl rfl rfl dX5_isLeft_1 ?_
  refine s_get (C1 := RX0) (T := TX0) (N := 5) (ci := 0) C 7 1 3 uX0 rfl rfl (Nat.le_of_ble_eq_true rfl) uu53 rfl rfl rfl dX5_isLeft_4 ?_
  refine s_iconst C 8 rfl dX5_isLeft_7 ic_1 ?_
  refine s_iload_n C 9 1 rfl dX5_isLeft_8 rfl ?_
  refine s_ishl C 10 rfl dX5_isLeft_9 ?_
  refine s_iand C 11 rfl dX5_isLeft_10 ?_
  refine s_if_eq C 18 14 rfl dX5_isLeft_11 rfl (fun hc1 => ?_) (fun hc1 => ?_)
  · replace hf := ite_t hc1 hf
    refine s_iconst C 19 rfl dX5_isLeft_18 ic_0 ?_
    obtain rfl := Option.some.inj hf
    exact s_zret C kc hr hlk (Or.inl rfl) rfl rfl dX5_isLeft_19
  · replace hf := ite_f hc1 hf
    refine s_iconst C 15 rfl dX5_isLeft_14 ic_1 ?_
    refine s_goto C 19 dX5_isLeft_15 rfl ?_
    obtain rfl := Option.some.inj hf
    exact s_zret C kc hr hlk (Or.inr rfl) rfl rfl dX5_isLeft_19


theorem hd_X5_readShare : yX5_readShare.cls = RX5 ∧ yX5_readShare.cls ≠ "java/lang/invoke/MethodHandle" ∧ yX5_readShare.cls ≠ "java/lang/invoke/VarHandle" ∧ (parseMethodDescriptor yX5_readShare.desc).map (fun d => d.parameters.length) = some 1 := by decide +kernel
set_option maxHeartbeats 4000000 in
set_option maxRecDepth 100000 in
theorem c_X5_readShare (l : Launch) (D : va_G) (cI : ClassId) (adK adV : Nat → Nat) (ad : Nat → Nat) (kc : Nat → Nat) (tolds : Int32) (hasImage : Int32) (n_heirs : Int32) (n_left : Int32) (n_bitten : Int32) (n_kinds : (Nat → Int32)) (n_figures : (Nat → Int32)) (k_heirs : Int32) (k_left : Int32) (k_bitten : Int32) (k_kinds : (Nat → Int32)) (k_figures : (Nat → Int32)) (t_heirs : Int32) (t_left : Int32) (t_bitten : Int32) (t_kinds : (Nat → Int32)) (t_figures : (Nat → Int32)) (r_gone : Int32) (r_heaps : Int32) (r_fewestCells : Int32) (r_deed : Int32) (c_ways : (Nat → Int32)) (c_fewest : (Nat → Int32)) (c_nextWays : (Nat → Int32)) (c_nextFewest : (Nat → Int32)) (x_length : Int32) (x_letters : (Nat → Int32)) (told : (Nat → Int32)) (refusals : (Nat → Int32)) (ends : (Nat → Int32)) (a1 : Int32) (o : Int32) (hf : f_X5_readShare n_kinds n_figures r_gone r_heaps r_deed a1 = some o) : Ct l D cI adK adV yX5_readShare (wy yX5_readShare cX5_readShare 2 (some .int)) { frames := 2, cells := 0, slots := 0, locals := 49 } 0 0 [.ref (ad 0), .int a1] (wX ad kc cI tolds hasImage n_heirs n_left n_bitten n_kinds n_figures k_heirs k_left k_bitten k_kinds k_figures t_heirs t_left t_bitten t_kinds t_figures r_gone r_heaps r_fewestCells r_deed c_ways c_fewest c_nextWays c_nextFewest x_length x_letters told refusals ends) (fun _ => (wX ad kc cI tolds hasImage n_heirs n_left n_bitten n_kinds n_figures k_heirs k_left k_bitten k_kinds k_figures t_heirs t_left t_bitten t_kinds t_figures r_gone r_heaps r_fewestCells r_deed c_ways c_fewest c_nextWays c_nextFewest x_length x_letters told refusals ends)) (some (.int o)) := by
  refine Ct.of (cc := cX5_readShare) (nL := 2) (ret := (some .int)) (own := RX5) (by decide) (Nat.le_of_ble_eq_true rfl) rfl ?_
  intro p e s m args below meth c A C hr hlk hnm
  refine s_lv (lv1 := [(0, .ref (ad 0)), (1, .int a1)]) [0, 1] rfl ?_
  unfold f_X5_readShare at hf
  refine s_aload_n C 1 0 rfl dX5_readShare_0 rfl ?_
  refine s_get (C1 := RX5) (T := TX5) (N := 11) (ci := 4) C 4 0 3 uX5 rfl rfl (Nat.le_of_ble_eq_true rfl) uu136 rfl rfl rfl dX5_readShare_1 ?_
  refine s_aload_n C 5 0 rfl dX5_readShare_4 rfl ?_
  refine s_get (C1 := RX5) (T := TX5) (N := 11) (ci := 4) C 8 0 0 uX5 rfl rfl (Nat.le_of_ble_eq_true rfl) uu130 rfl rfl rfl dX5_readShare_5 ?_
  refine s_get (C1 := RX0) (T := TX0) (N := 5) (ci := 0) C 11 1 0 uX0 rfl rfl (Nat.le_of_ble_eq_true rfl) uu41 rfl rfl rfl dX5_readShare_8 ?_
  refine s_iload_n C 12 1 rfl dX5_readShare_11 rfl ?_
  obtain ⟨h1, hf⟩ := ck_in hf
  refine s_iald C 13 2 rfl h1 rfl dX5_readShare_12 ?_
  refine s_aload_n C 14 0 rfl dX5_readShare_13 rfl ?_
  refine s_get (C1 := RX5) (T := TX5) (N := 11) (ci := 4) C 17 0 0 uX5 rfl rfl (Nat.le_of_ble_eq_true rfl) uu130 rfl rfl rfl dX5_readShare_14 ?_
  refine s_get (C1 := RX0) (T := TX0) (N := 5) (ci := 0) C 20 1 1 uX0 rfl rfl (Nat.le_of_ble_eq_true rfl) uu45 rfl rfl rfl dX5_readShare_17 ?_
  refine s_iload_n C 21 1 rfl dX5_readShare_20 rfl ?_
  obtain ⟨h2, hf⟩ := ck_in hf
  refine s_iald C 22 3 rfl h2 rfl dX5_readShare_21 ?_
  obtain ⟨r3, q4, hf⟩ := bn_s hf
  refine s_callV (T := TX3) (N := 4) (ci := 2) (q0 := 10) (rest := []) (wr := [((ad 0), .inr (4, [.ref (ad 1), .ref (ad 4), .ref (ad 7), .ref (ad 10), .ref (ad 11), .ref (ad 12), .ref (ad 14), .ref (ad 15), .ref (ad 16), .int tolds, .int hasImage])), ((ad 1), .inr (0, [.ref (ad 2), .ref (ad 3), .int n_heirs, .int n_left, .int n_bitten])), ((ad 2), .inl (cI, 5, .inl n_kinds)), ((ad 3), .inl (cI, 5, .inl n_figures)), ((ad 4), .inr (0, [.ref (ad 5), .ref (ad 6), .int k_heirs, .int k_left, .int k_bitten])), ((ad 5), .inl (cI, 5, .inl k_kinds)), ((ad 6), .inl (cI, 5, .inl k_figures)), ((ad 7), .inr (0, [.ref (ad 8), .ref (ad 9), .int t_heirs, .int t_left, .int t_bitten])), ((ad 8), .inl (cI, 5, .inl t_kinds)), ((ad 9), .inl (cI, 5, .inl t_figures)), ((ad 11), .inr (1, [.ref (kc 0), .ref (kc 1), .ref (kc 2), .ref (kc 3)])), ((kc 0), .inl (cI, 64, .inl c_ways)), ((kc 1), .inl (cI, 64, .inl c_fewest)), ((kc 2), .inl (cI, 64, .inl c_nextWays)), ((kc 3), .inl (cI, 64, .inl c_nextFewest)), ((ad 12), .inr (3, [.ref (ad 13), .int x_length])), ((ad 13), .inl (cI, 96, .inl x_letters)), ((ad 14), .inl (cI, 16, .inl told)), ((ad 15), .inl (cI, 7, .inl refusals)), ((ad 16), .inl (cI, 4, .inl ends))]) (ws2 := fun _ => (wX ad kc cI tolds hasImage n_heirs n_left n_bitten n_kinds n_figures k_heirs k_left k_bitten k_kinds k_figures t_heirs t_left t_bitten t_kinds t_figures r_gone r_heaps r_fewestCells r_deed c_ways c_fewest c_nextWays c_nextFewest x_length x_letters told refusals ends)) C 25 (c_X3_shareBy l D cI adK adV (ad 10) r_gone r_heaps r_fewestCells r_deed (n_kinds a1.toNatClampNeg) (n_figures a1.toNatClampNeg) r3 q4) (gV uu538 uu540 uu541 uu3 uu542) hd_X3_shareBy rfl ⟨rfl, rfl⟩ ⟨Nat.le_of_ble_eq_true rfl, Nat.le_of_ble_eq_true rfl⟩ ⟨Nat.le_of_ble_eq_true rfl, Nat.le_of_ble_eq_true rfl⟩ rfl rfl rfl (Nat.le_of_ble_eq_true rfl) [10] [0, 1, 2, 3, 4, 5, 6, 7, 8, 9, 11, 12, 13, 14, 15, 16, 17, 18, 19, 20] [0, 1, 2, 3, 4, 5, 6, 7, 8, 9, 20, 10, 11, 12, 13, 14, 15, 16, 17, 18, 19] rfl rfl rfl rfl (by decide) rfl (fun _ => rfl) (fun _ => rfl) rfl dX5_readShare_22 (fun _ => ?_)
  obtain rfl := Option.some.inj hf
  exact s_iret C kc hr hlk rfl rfl dX5_readShare_25


theorem hd_X5_sharesTogether : yX5_sharesTogether.cls = RX5 ∧ yX5_sharesTogether.cls ≠ "java/lang/invoke/MethodHandle" ∧ yX5_sharesTogether.cls ≠ "java/lang/invoke/VarHandle" ∧ (parseMethodDescriptor yX5_sharesTogether.desc).map (fun d => d.parameters.length) = some 1 := by decide +kernel
set_option maxHeartbeats 4000000 in
set_option maxRecDepth 100000 in
theorem c_X5_sharesTogether (l : Launch) (D : va_G) (cI : ClassId) (adK adV : Nat → Nat) (ad : Nat → Nat) (kc : Nat → Nat) (tolds : Int32) (hasImage : Int32) (n_heirs : Int32) (n_left : Int32) (n_bitten : Int32) (n_kinds : (Nat → Int32)) (n_figures : (Nat → Int32)) (k_heirs : Int32) (k_left : Int32) (k_bitten : Int32) (k_kinds : (Nat → Int32)) (k_figures : (Nat → Int32)) (t_heirs : Int32) (t_left : Int32) (t_bitten : Int32) (t_kinds : (Nat → Int32)) (t_figures : (Nat → Int32)) (r_gone : Int32) (r_heaps : Int32) (r_fewestCells : Int32) (r_deed : Int32) (c_ways : (Nat → Int32)) (c_fewest : (Nat → Int32)) (c_nextWays : (Nat → Int32)) (c_nextFewest : (Nat → Int32)) (x_length : Int32) (x_letters : (Nat → Int32)) (told : (Nat → Int32)) (refusals : (Nat → Int32)) (ends : (Nat → Int32)) (a1 : Int32) (o : Int32 × Int32 × Int32 × Int32 × Int32) (hf : f_X5_sharesTogether n_heirs n_kinds n_figures a1 = some o) : Ct l D cI adK adV yX5_sharesTogether (wy yX5_sharesTogether cX5_sharesTogether 4 (some .int)) { frames := 3, cells := 0, slots := 0, locals := 71 } 0 0 [.ref (ad 0), .int a1] (wX ad kc cI tolds hasImage n_heirs n_left n_bitten n_kinds n_figures k_heirs k_left k_bitten k_kinds k_figures t_heirs t_left t_bitten t_kinds t_figures r_gone r_heaps r_fewestCells r_deed c_ways c_fewest c_nextWays c_nextFewest x_length x_letters told refusals ends) (fun _ => (wX ad kc cI tolds hasImage n_heirs n_left n_bitten n_kinds n_figures k_heirs k_left k_bitten k_kinds k_figures t_heirs t_left t_bitten t_kinds t_figures o.2.1 o.2.2.1 o.2.2.2.1 o.2.2.2.2 c_ways c_fewest c_nextWays c_nextFewest x_length x_letters told refusals ends)) (some (.int o.1)) := by
  refine Ct.of (cc := cX5_sharesTogether) (nL := 4) (ret := (some .int)) (own := RX5) (by decide) (Nat.le_of_ble_eq_true rfl) rfl ?_
  intro p e s m args below meth c A C hr hlk hnm
  refine s_lv (lv1 := [(0, .ref (ad 0)), (1, .int a1)]) [0, 1] rfl ?_
  unfold f_X5_sharesTogether at hf
  refine s_aload_n C 1 0 rfl dX5_sharesTogether_0 rfl ?_
  refine s_get (C1 := RX5) (T := TX5) (N := 11) (ci := 4) C 4 0 3 uX5 rfl rfl (Nat.le_of_ble_eq_true rfl) uu136 rfl rfl rfl dX5_sharesTogether_1 ?_
  refine s_iload_n C 5 1 rfl dX5_sharesTogether_4 rfl ?_
  obtain ⟨r1, q2, hf⟩ := bn_s hf
  refine s_callV (T := TX3) (N := 4) (ci := 2) (q0 := 10) (rest := []) (wr := [((ad 0), .inr (4, [.ref (ad 1), .ref (ad 4), .ref (ad 7), .ref (ad 10), .ref (ad 11), .ref (ad 12), .ref (ad 14), .ref (ad 15), .ref (ad 16), .int tolds, .int hasImage])), ((ad 1), .inr (0, [.ref (ad 2), .ref (ad 3), .int n_heirs, .int n_left, .int n_bitten])), ((ad 2), .inl (cI, 5, .inl n_kinds)), ((ad 3), .inl (cI, 5, .inl n_figures)), ((ad 4), .inr (0, [.ref (ad 5), .ref (ad 6), .int k_heirs, .int k_left, .int k_bitten])), ((ad 5), .inl (cI, 5, .inl k_kinds)), ((ad 6), .inl (cI, 5, .inl k_figures)), ((ad 7), .inr (0, [.ref (ad 8), .ref (ad 9), .int t_heirs, .int t_left, .int t_bitten])), ((ad 8), .inl (cI, 5, .inl t_kinds)), ((ad 9), .inl (cI, 5, .inl t_figures)), ((ad 11), .inr (1, [.ref (kc 0), .ref (kc 1), .ref (kc 2), .ref (kc 3)])), ((kc 0), .inl (cI, 64, .inl c_ways)), ((kc 1), .inl (cI, 64, .inl c_fewest)), ((kc 2), .inl (cI, 64, .inl c_nextWays)), ((kc 3), .inl (cI, 64, .inl c_nextFewest)), ((ad 12), .inr (3, [.ref (ad 13), .int x_length])), ((ad 13), .inl (cI, 96, .inl x_letters)), ((ad 14), .inl (cI, 16, .inl told)), ((ad 15), .inl (cI, 7, .inl refusals)), ((ad 16), .inl (cI, 4, .inl ends))]) (ws2 := fun _ => (wX ad kc cI tolds hasImage n_heirs n_left n_bitten n_kinds n_figures k_heirs k_left k_bitten k_kinds k_figures t_heirs t_left t_bitten t_kinds t_figures r1.1 r1.2.1 r1.2.2.1 r1.2.2.2 c_ways c_fewest c_nextWays c_nextFewest x_length x_letters told refusals ends)) C 8 (c_X3_reads l D cI adK adV (ad 10) r_gone r_heaps r_fewestCells r_deed a1 r1 q2) (gV uu521 uu523 uu524 uu3 uu525) hd_X3_reads rfl ⟨rfl, rfl⟩ ⟨Nat.le_of_ble_eq_true rfl, Nat.le_of_ble_eq_true rfl⟩ ⟨Nat.le_of_ble_eq_true rfl, Nat.le_of_ble_eq_true rfl⟩ rfl rfl rfl (Nat.le_of_ble_eq_true rfl) [10] [0, 1, 2, 3, 4, 5, 6, 7, 8, 9, 11, 12, 13, 14, 15, 16, 17, 18, 19, 20] [0, 1, 2, 3, 4, 5, 6, 7, 8, 9, 20, 10, 11, 12, 13, 14, 15, 16, 17, 18, 19] rfl rfl rfl rfl (by decide) rfl (fun _ => rfl) (fun _ => rfl) rfl dX5_sharesTogether_5 (fun _ => ?_)
  refine s_iconst C 9 rfl dX5_sharesTogether_8 ic_0 ?_
  refine s_istore_n (lv1 := [(2, .int (0 : Int32)), (0, .ref (ad 0)), (1, .int a1)]) C 10 2 rfl dX5_sharesTogether_9 rfl (Nat.le_of_ble_eq_true rfl) rfl ?_
  refine s_iconst C 11 rfl dX5_sharesTogether_10 ic_0 ?_
  refine s_istore_n (lv1 := [(3, .int (0 : Int32)), (2, .int (0 : Int32)), (0, .ref (ad 0)), (1, .int a1)]) C 12 3 rfl dX5_sharesTogether_11 rfl (Nat.le_of_ble_eq_true rfl) rfl ?_
  refine s_lv (lv1 := [(0, .ref (ad 0)), (2, .int (0 : Int32)), (3, .int (0 : Int32))]) [2, 1, 0] rfl ?_
  refine s_loop (α := Int32 × Int32) (fun n v6 => f_X5_sharesTogether_12 n_heirs n_kinds n_figures r1.1 r1.2.1 r1.2.2.1 r1.2.2.2 n v6.1 v6.2) 12 (fun v6 => [(0, .ref (ad 0)), (2, .int v6.1), (3, .int v6.2)]) (fun v6 => (wX ad kc cI tolds hasImage n_heirs n_left n_bitten n_kinds n_figures k_heirs k_left k_bitten k_kinds k_figures t_heirs t_left t_bitten t_kinds t_figures r1.1 r1.2.1 r1.2.2.1 r1.2.2.2 c_ways c_fewest c_nextWays c_nextFewest x_length x_letters told refusals ends)) 1000 ((0 : Int32), (0 : Int32)) hf (fun v6 hf => by simp only [f_X5_sharesTogether_12] at hf; exact absurd hf (by simp)) (fun n ih7 v6 hf => ?_)
  replace hf := (f_X5_sharesTogether_12_s _ _ _ _ _ _ _ _ _ _).symm.trans hf
  refine s_iload_n C 13 2 rfl dX5_sharesTogether_12 rfl ?_
  refine s_aload_n C 14 0 rfl dX5_sharesTogether_13 rfl ?_
  refine s_get (C1 := RX5) (T := TX5) (N := 11) (ci := 4) C 17 0 0 uX5 rfl rfl (Nat.le_of_ble_eq_true rfl) uu130 rfl rfl rfl dX5_sharesTogether_14 ?_
  refine s_get (C1 := RX0) (T := TX0) (N := 5) (ci := 0) C 20 1 2 uX0 rfl rfl (Nat.le_of_ble_eq_true rfl) uu49 rfl rfl rfl dX5_sharesTogether_17 ?_
  refine s_icmp_ge C 37 23 rfl dX5_sharesTogether_20 rfl (fun hc10 => ?_) (fun hc10 => ?_)
  · replace hf := ite_t hc10 hf
    refine s_iload_n C 38 1 rfl dX5_sharesTogether_37 rfl ?_
    obtain rfl := Option.some.inj hf
    exact s_iret C kc hr hlk rfl rfl dX5_sharesTogether_38
  · replace hf := ite_f hc10 hf
    refine s_iload_n C 24 1 rfl dX5_sharesTogether_23 rfl ?_
    refine s_aload_n C 25 0 rfl dX5_sharesTogether_24 rfl ?_
    refine s_iload_n C 26 2 rfl dX5_sharesTogether_25 rfl ?_
    obtain ⟨r8, q9, hf⟩ := bn_s hf
    refine s_callW (T := TX5) (N := 11) (ci := 4) (q0 := 0) (rest := [.int v6.1]) C 29 (c_X5_readShare l D cI adK adV ad kc tolds hasImage n_heirs n_left n_bitten n_kinds n_figures k_heirs k_left k_bitten k_kinds k_figures t_heirs t_left t_bitten t_kinds t_figures r1.1 r1.2.1 r1.2.2.1 r1.2.2.2 c_ways c_fewest c_nextWays c_nextFewest x_length x_letters told refusals ends v6.2 r8 q9) (gV uu533 uu535 uu1549 uu1 uu536) hd_X5_readShare rfl ⟨rfl, rfl⟩ ⟨Nat.le_of_ble_eq_true rfl, Nat.le_of_ble_eq_true rfl⟩ ⟨Nat.le_of_ble_eq_true rfl, Nat.le_of_ble_eq_true rfl⟩ rfl rfl rfl (Nat.le_of_ble_eq_true rfl) rfl dX5_sharesTogether_26 (fun _ => ?_)
    refine s_iadd C 30 rfl dX5_sharesTogether_29 ?_
    refine s_istore_n (lv1 := [(2, .int (v6.1 + r8)), (0, .ref (ad 0)), (3, .int v6.2)]) C 31 2 rfl dX5_sharesTogether_30 rfl (Nat.le_of_ble_eq_true rfl) rfl ?_
    refine s_iinc (lv1 := [(3, .int (v6.2 + (1 : Int32))), (2, .int (v6.1 + r8)), (0, .ref (ad 0))]) C 34 3 2 rfl dX5_sharesTogether_31 rfl ic_1 (Nat.le_of_ble_eq_true rfl) rfl ?_
    refine s_goto C 12 dX5_sharesTogether_34 rfl ?_
    exact s_lv [2, 1, 0] rfl (ih7 ((v6.1 + r8, v6.2 + (1 : Int32)) : Int32 × Int32) hf)


theorem hd_X5_richest : yX5_richest.cls = RX5 ∧ yX5_richest.cls ≠ "java/lang/invoke/MethodHandle" ∧ yX5_richest.cls ≠ "java/lang/invoke/VarHandle" ∧ (parseMethodDescriptor yX5_richest.desc).map (fun d => d.parameters.length) = some 0 := by decide +kernel
set_option maxHeartbeats 4000000 in
set_option maxRecDepth 100000 in
theorem c_X5_richest (l : Launch) (D : va_G) (cI : ClassId) (adK adV : Nat → Nat) (ad : Nat → Nat) (kc : Nat → Nat) (tolds : Int32) (hasImage : Int32) (n_heirs : Int32) (n_left : Int32) (n_bitten : Int32) (n_kinds : (Nat → Int32)) (n_figures : (Nat → Int32)) (k_heirs : Int32) (k_left : Int32) (k_bitten : Int32) (k_kinds : (Nat → Int32)) (k_figures : (Nat → Int32)) (t_heirs : Int32) (t_left : Int32) (t_bitten : Int32) (t_kinds : (Nat → Int32)) (t_figures : (Nat → Int32)) (r_gone : Int32) (r_heaps : Int32) (r_fewestCells : Int32) (r_deed : Int32) (c_ways : (Nat → Int32)) (c_fewest : (Nat → Int32)) (c_nextWays : (Nat → Int32)) (c_nextFewest : (Nat → Int32)) (x_length : Int32) (x_letters : (Nat → Int32)) (told : (Nat → Int32)) (refusals : (Nat → Int32)) (ends : (Nat → Int32))  (o : Int32 × Int32 × Int32 × Int32 × Int32) (hf : f_X5_richest n_heirs n_left n_kinds n_figures = some o) : Ct l D cI adK adV yX5_richest (wy yX5_richest cX5_richest 5 (some .int)) { frames := 3, cells := 0, slots := 0, locals := 71 } 0 0 [.ref (ad 0)] (wX ad kc cI tolds hasImage n_heirs n_left n_bitten n_kinds n_figures k_heirs k_left k_bitten k_kinds k_figures t_heirs t_left t_bitten t_kinds t_figures r_gone r_heaps r_fewestCells r_deed c_ways c_fewest c_nextWays c_nextFewest x_length x_letters told refusals ends) (fun _ => (wX ad kc cI tolds hasImage n_heirs n_left n_bitten n_kinds n_figures k_heirs k_left k_bitten k_kinds k_figures t_heirs t_left t_bitten t_kinds t_figures o.2.1 o.2.2.1 o.2.2.2.1 o.2.2.2.2 c_ways c_fewest c_nextWays c_nextFewest x_length x_letters told refusals ends)) (some (.int o.1)) := by
  refine Ct.of (cc := cX5_richest) (nL := 5) (ret := (some .int)) (own := RX5) (by decide) (Nat.le_of_ble_eq_true rfl) rfl ?_
  intro p e s m args below meth c A C hr hlk hnm
  refine s_lv (lv1 := [(0, .ref (ad 0))]) [0] rfl ?_
  unfold f_X5_richest at hf
  refine s_aload_n C 1 0 rfl dX5_richest_0 rfl ?_
  refine s_get (C1 := RX5) (T := TX5) (N := 11) (ci := 4) C 4 0 3 uX5 rfl rfl (Nat.le_of_ble_eq_true rfl) uu136 rfl rfl rfl dX5_richest_1 ?_
  refine s_aload_n C 5 0 rfl dX5_richest_4 rfl ?_
  refine s_get (C1 := RX5) (T := TX5) (N := 11) (ci := 4) C 8 0 0 uX5 rfl rfl (Nat.le_of_ble_eq_true rfl) uu130 rfl rfl rfl dX5_richest_5 ?_
  refine s_get (C1 := RX0) (T := TX0) (N := 5) (ci := 0) C 11 1 3 uX0 rfl rfl (Nat.le_of_ble_eq_true rfl) uu53 rfl rfl rfl dX5_richest_8 ?_
  obtain ⟨r1, q2, hf⟩ := bn_s hf
  refine s_callV (T := TX3) (N := 4) (ci := 2) (q0 := 10) (rest := []) (wr := [((ad 0), .inr (4, [.ref (ad 1), .ref (ad 4), .ref (ad 7), .ref (ad 10), .ref (ad 11), .ref (ad 12), .ref (ad 14), .ref (ad 15), .ref (ad 16), .int tolds, .int hasImage])), ((ad 1), .inr (0, [.ref (ad 2), .ref (ad 3), .int n_heirs, .int n_left, .int n_bitten])), ((ad 2), .inl (cI, 5, .inl n_kinds)), ((ad 3), .inl (cI, 5, .inl n_figures)), ((ad 4), .inr (0, [.ref (ad 5), .ref (ad 6), .int k_heirs, .int k_left, .int k_bitten])), ((ad 5), .inl (cI, 5, .inl k_kinds)), ((ad 6), .inl (cI, 5, .inl k_figures)), ((ad 7), .inr (0, [.ref (ad 8), .ref (ad 9), .int t_heirs, .int t_left, .int t_bitten])), ((ad 8), .inl (cI, 5, .inl t_kinds)), ((ad 9), .inl (cI, 5, .inl t_figures)), ((ad 11), .inr (1, [.ref (kc 0), .ref (kc 1), .ref (kc 2), .ref (kc 3)])), ((kc 0), .inl (cI, 64, .inl c_ways)), ((kc 1), .inl (cI, 64, .inl c_fewest)), ((kc 2), .inl (cI, 64, .inl c_nextWays)), ((kc 3), .inl (cI, 64, .inl c_nextFewest)), ((ad 12), .inr (3, [.ref (ad 13), .int x_length])), ((ad 13), .inl (cI, 96, .inl x_letters)), ((ad 14), .inl (cI, 16, .inl told)), ((ad 15), .inl (cI, 7, .inl refusals)), ((ad 16), .inl (cI, 4, .inl ends))]) (ws2 := fun _ => (wX ad kc cI tolds hasImage n_heirs n_left n_bitten n_kinds n_figures k_heirs k_left k_bitten k_kinds k_figures t_heirs t_left t_bitten t_kinds t_figures r1.1 r1.2.1 r1.2.2.1 r1.2.2.2 c_ways c_fewest c_nextWays c_nextFewest x_length x_letters told refusals ends)) C 14 (c_X3_reads l D cI adK adV (ad 10) r_gone r_heaps r_fewestCells r_deed n_left r1 q2) (gV uu521 uu523 uu524 uu3 uu525) hd_X3_reads rfl ⟨rfl, rfl⟩ ⟨Nat.le_of_ble_eq_true rfl, Nat.le_of_ble_eq_true rfl⟩ ⟨Nat.le_of_ble_eq_true rfl, Nat.le_of_ble_eq_true rfl⟩ rfl rfl rfl (Nat.le_of_ble_eq_true rfl) [10] [0, 1, 2, 3, 4, 5, 6, 7, 8, 9, 11, 12, 13, 14, 15, 16, 17, 18, 19, 20] [0, 1, 2, 3, 4, 5, 6, 7, 8, 9, 20, 10, 11, 12, 13, 14, 15, 16, 17, 18, 19] rfl rfl rfl rfl (by decide) rfl (fun _ => rfl) (fun _ => rfl) rfl dX5_richest_11 (fun _ => ?_)
  refine s_bipush C 16 rfl dX5_richest_14 bp_m9 ?_
  refine s_istore_n (lv1 := [(1, .int (-9 : Int32)), (0, .ref (ad 0))]) C 17 1 rfl dX5_richest_16 rfl (Nat.le_of_ble_eq_true rfl) rfl ?_
  refine s_iconst C 18 rfl dX5_richest_17 ic_m1 ?_
  refine s_istore_n (lv1 := [(2, .int (-1 : Int32)), (1, .int (-9 : Int32)), (0, .ref (ad 0))]) C 19 2 rfl dX5_richest_18 rfl (Nat.le_of_ble_eq_true rfl) rfl ?_
  refine s_iconst C 20 rfl dX5_richest_19 ic_0 ?_
  refine s_istore_n (lv1 := [(3, .int (0 : Int32)), (2, .int (-1 : Int32)), (1, .int (-9 : Int32)), (0, .ref (ad 0))]) C 21 3 rfl dX5_richest_20 rfl (Nat.le_of_ble_eq_true rfl) rfl ?_
  refine s_lv (lv1 := [(0, .ref (ad 0)), (1, .int (-9 : Int32)), (2, .int (-1 : Int32)), (3, .int (0 : Int32))]) [3, 2, 1, 0] rfl ?_
  refine s_loop (α := Int32 × Int32 × Int32) (fun n v8 => f_X5_richest_21 n_heirs n_kinds n_figures r1.1 r1.2.1 r1.2.2.1 r1.2.2.2 n v8.1 v8.2.1 v8.2.2) 21 (fun v8 => [(0, .ref (ad 0)), (1, .int v8.1), (2, .int v8.2.1), (3, .int v8.2.2)]) (fun v8 => (wX ad kc cI tolds hasImage n_heirs n_left n_bitten n_kinds n_figures k_heirs k_left k_bitten k_kinds k_figures t_heirs t_left t_bitten t_kinds t_figures r1.1 r1.2.1 r1.2.2.1 r1.2.2.2 c_ways c_fewest c_nextWays c_nextFewest x_length x_letters told refusals ends)) 1000 ((-9 : Int32), (-1 : Int32), (0 : Int32)) hf (fun v8 hf => by simp only [f_X5_richest_21] at hf; exact absurd hf (by simp)) (fun n ih9 v8 hf => ?_)
  replace hf := (f_X5_richest_21_s _ _ _ _ _ _ _ _ _ _ _).symm.trans hf
  refine s_iload_n C 22 3 rfl dX5_richest_21 rfl ?_
  refine s_aload_n C 23 0 rfl dX5_richest_22 rfl ?_
  refine s_get (C1 := RX5) (T := TX5) (N := 11) (ci := 4) C 26 0 0 uX5 rfl rfl (Nat.le_of_ble_eq_true rfl) uu130 rfl rfl rfl dX5_richest_23 ?_
  refine s_get (C1 := RX0) (T := TX0) (N := 5) (ci := 0) C 29 1 2 uX0 rfl rfl (Nat.le_of_ble_eq_true rfl) uu49 rfl rfl rfl dX5_richest_26 ?_
  refine s_icmp_ge C 56 32 rfl dX5_richest_29 rfl (fun hc14 => ?_) (fun hc14 => ?_)
  · replace hf := ite_t hc14 hf
    refine s_iload_n C 57 1 rfl dX5_richest_56 rfl ?_
    obtain rfl := Option.some.inj hf
    exact s_iret C kc hr hlk rfl rfl dX5_richest_57
  · replace hf := ite_f hc14 hf
    refine s_aload_n C 33 0 rfl dX5_richest_32 rfl ?_
    refine s_iload_n C 34 3 rfl dX5_richest_33 rfl ?_
    obtain ⟨r10, q11, hf⟩ := bn_s hf
    refine s_callW (T := TX5) (N := 11) (ci := 4) (q0 := 0) (rest := []) C 37 (c_X5_readShare l D cI adK adV ad kc tolds hasImage n_heirs n_left n_bitten n_kinds n_figures k_heirs k_left k_bitten k_kinds k_figures t_heirs t_left t_bitten t_kinds t_figures r1.1 r1.2.1 r1.2.2.1 r1.2.2.2 c_ways c_fewest c_nextWays c_nextFewest x_length x_letters told refusals ends v8.2.2 r10 q11) (gV uu533 uu535 uu1549 uu1 uu536) hd_X5_readShare rfl ⟨rfl, rfl⟩ ⟨Nat.le_of_ble_eq_true rfl, Nat.le_of_ble_eq_true rfl⟩ ⟨Nat.le_of_ble_eq_true rfl, Nat.le_of_ble_eq_true rfl⟩ rfl rfl rfl (Nat.le_of_ble_eq_true rfl) rfl dX5_richest_34 (fun _ => ?_)
    refine s_istore (lv1 := [(4, .int r10), (0, .ref (ad 0)), (1, .int v8.1), (2, .int v8.2.1), (3, .int v8.2.2)]) C 39 4 rfl dX5_richest_37 (Nat.le_of_ble_eq_true rfl) rfl ?_
    refine s_iload C 41 0 rfl dX5_richest_39 rfl ?_
    refine s_iload_n C 42 3 rfl dX5_richest_41 rfl ?_
    refine s_jn (α := Int32 × Int32) 50 (fun j12 => [(0, .ref (ad 0)), (1, .int j12.1), (2, .int j12.2), (3, .int v8.2.2)]) (fun j12 => []) (fun j12 => (wX ad kc cI tolds hasImage n_heirs n_left n_bitten n_kinds n_figures k_heirs k_left k_bitten k_kinds k_figures t_heirs t_left t_bitten t_kinds t_figures r1.1 r1.2.1 r1.2.2.1 r1.2.2.2 c_ways c_fewest c_nextWays c_nextFewest x_length x_letters told refusals ends)) hf (fun j12 hf => ?_) (fun hj hf => ?_)
    · refine s_iinc (lv1 := [(3, .int (v8.2.2 + (1 : Int32))), (0, .ref (ad 0)), (1, .int j12.1), (2, .int j12.2)]) C 53 3 3 rfl dX5_richest_50 rfl ic_1 (Nat.le_of_ble_eq_true rfl) rfl ?_
      refine s_goto C 21 dX5_richest_53 rfl ?_
      exact s_lv [1, 2, 3, 0] rfl (ih9 ((j12.1, j12.2, v8.2.2 + (1 : Int32)) : Int32 × Int32 × Int32) hf)
    · refine s_icmp_le C 50 45 rfl dX5_richest_42 rfl (fun hc13 => ?_) (fun hc13 => ?_)
      · replace hf := jn_t hc13 hf
        replace hf := jn_i hf
        exact s_lv [1, 2, 3, 4] rfl (hj ((v8.1, v8.2.1) : Int32 × Int32) hf)
      · replace hf := jn_f hc13 hf
        refine s_iload C 47 0 rfl dX5_richest_45 rfl ?_
        refine s_istore_n (lv1 := [(2, .int r10), (4, .int r10), (0, .ref (ad 0)), (1, .int v8.1), (3, .int v8.2.2)]) C 48 2 rfl dX5_richest_47 rfl (Nat.le_of_ble_eq_true rfl) rfl ?_
        refine s_iload_n C 49 4 rfl dX5_richest_48 rfl ?_
        refine s_istore_n (lv1 := [(1, .int v8.2.2), (2, .int r10), (4, .int r10), (0, .ref (ad 0)), (3, .int v8.2.2)]) C 50 1 rfl dX5_richest_49 rfl (Nat.le_of_ble_eq_true rfl) rfl ?_
        replace hf := jn_i hf
        exact s_lv [3, 0, 1, 4] rfl (hj ((v8.2.2, r10) : Int32 × Int32) hf)


theorem hd_X5_isSettled : yX5_isSettled.cls = RX5 ∧ yX5_isSettled.cls ≠ "java/lang/invoke/MethodHandle" ∧ yX5_isSettled.cls ≠ "java/lang/invoke/VarHandle" ∧ (parseMethodDescriptor yX5_isSettled.desc).map (fun d => d.parameters.length) = some 1 := by decide +kernel
set_option maxHeartbeats 4000000 in
set_option maxRecDepth 100000 in
theorem c_X5_isSettled (l : Launch) (D : va_G) (cI : ClassId) (adK adV : Nat → Nat) (ad : Nat → Nat) (kc : Nat → Nat) (tolds : Int32) (hasImage : Int32) (n_heirs : Int32) (n_left : Int32) (n_bitten : Int32) (n_kinds : (Nat → Int32)) (n_figures : (Nat → Int32)) (k_heirs : Int32) (k_left : Int32) (k_bitten : Int32) (k_kinds : (Nat → Int32)) (k_figures : (Nat → Int32)) (t_heirs : Int32) (t_left : Int32) (t_bitten : Int32) (t_kinds : (Nat → Int32)) (t_figures : (Nat → Int32)) (r_gone : Int32) (r_heaps : Int32) (r_fewestCells : Int32) (r_deed : Int32) (c_ways : (Nat → Int32)) (c_fewest : (Nat → Int32)) (c_nextWays : (Nat → Int32)) (c_nextFewest : (Nat → Int32)) (x_length : Int32) (x_letters : (Nat → Int32)) (told : (Nat → Int32)) (refusals : (Nat → Int32)) (ends : (Nat → Int32)) (a1 : Int32) (o : Int32 × Int32 × Int32 × Int32 × Int32) (hf : f_X5_isSettled a1 = some o) : Ct l D cI adK adV yX5_isSettled (wy yX5_isSettled cX5_isSettled 2 (some .boolean)) { frames := 3, cells := 0, slots := 0, locals := 71 } 0 0 [.ref (ad 0), .int a1] (wX ad kc cI tolds hasImage n_heirs n_left n_bitten n_kinds n_figures k_heirs k_left k_bitten k_kinds k_figures t_heirs t_left t_bitten t_kinds t_figures r_gone r_heaps r_fewestCells r_deed c_ways c_fewest c_nextWays c_nextFewest x_length x_letters told refusals ends) (fun _ => (wX ad kc cI tolds hasImage n_heirs n_left n_bitten n_kinds n_figures k_heirs k_left k_bitten k_kinds k_figures t_heirs t_left t_bitten t_kinds t_figures o.2.1 o.2.2.1 o.2.2.2.1 o.2.2.2.2 c_ways c_fewest c_nextWays c_nextFewest x_length x_letters told refusals ends)) (some (.int o.1)) := by
  refine Ct.of (cc := cX5_isSettled) (nL := 2) (ret := (some .boolean)) (own := RX5) (by decide) (Nat.le_of_ble_eq_true rfl) rfl ?_
  intro p e s m args below meth c A C hr hlk hnm
  refine s_lv (lv1 := [(0, .ref (ad 0)), (1, .int a1)]) [0, 1] rfl ?_
  unfold f_X5_isSettled at hf
  refine s_aload_n C 1 0 rfl dX5_isSettled_0 rfl ?_
  refine s_get (C1 := RX5) (T := TX5) (N := 11) (ci := 4) C 4 0 3 uX5 rfl rfl (Nat.le_of_ble_eq_true rfl) uu136 rfl rfl rfl dX5_isSettled_1 ?_
  refine s_iload_n C 5 1 rfl dX5_isSettled_4 rfl ?_
  obtain ⟨r1, q2, hf⟩ := bn_s hf
  refine s_callV (T := TX3) (N := 4) (ci := 2) (q0 := 10) (rest := []) (wr := [((ad 0), .inr (4, [.ref (ad 1), .ref (ad 4), .ref (ad 7), .ref (ad 10), .ref (ad 11), .ref (ad 12), .ref (ad 14), .ref (ad 15), .ref (ad 16), .int tolds, .int hasImage])), ((ad 1), .inr (0, [.ref (ad 2), .ref (ad 3), .int n_heirs, .int n_left, .int n_bitten])), ((ad 2), .inl (cI, 5, .inl n_kinds)), ((ad 3), .inl (cI, 5, .inl n_figures)), ((ad 4), .inr (0, [.ref (ad 5), .ref (ad 6), .int k_heirs, .int k_left, .int k_bitten])), ((ad 5), .inl (cI, 5, .inl k_kinds)), ((ad 6), .inl (cI, 5, .inl k_figures)), ((ad 7), .inr (0, [.ref (ad 8), .ref (ad 9), .int t_heirs, .int t_left, .int t_bitten])), ((ad 8), .inl (cI, 5, .inl t_kinds)), ((ad 9), .inl (cI, 5, .inl t_figures)), ((ad 11), .inr (1, [.ref (kc 0), .ref (kc 1), .ref (kc 2), .ref (kc 3)])), ((kc 0), .inl (cI, 64, .inl c_ways)), ((kc 1), .inl (cI, 64, .inl c_fewest)), ((kc 2), .inl (cI, 64, .inl c_nextWays)), ((kc 3), .inl (cI, 64, .inl c_nextFewest)), ((ad 12), .inr (3, [.ref (ad 13), .int x_length])), ((ad 13), .inl (cI, 96, .inl x_letters)), ((ad 14), .inl (cI, 16, .inl told)), ((ad 15), .inl (cI, 7, .inl refusals)), ((ad 16), .inl (cI, 4, .inl ends))]) (ws2 := fun _ => (wX ad kc cI tolds hasImage n_heirs n_left n_bitten n_kinds n_figures k_heirs k_left k_bitten k_kinds k_figures t_heirs t_left t_bitten t_kinds t_figures r1.1 r1.2.1 r1.2.2.1 r1.2.2.2 c_ways c_fewest c_nextWays c_nextFewest x_length x_letters told refusals ends)) C 8 (c_X3_reads l D cI adK adV (ad 10) r_gone r_heaps r_fewestCells r_deed a1 r1 q2) (gV uu521 uu523 uu524 uu3 uu525) hd_X3_reads rfl ⟨rfl, rfl⟩ ⟨Nat.le_of_ble_eq_true rfl, Nat.le_of_ble_eq_true rfl⟩ ⟨Nat.le_of_ble_eq_true rfl, Nat.le_of_ble_eq_true rfl⟩ rfl rfl rfl (Nat.le_of_ble_eq_true rfl) [10] [0, 1, 2, 3, 4, 5, 6, 7, 8, 9, 11, 12, 13, 14, 15, 16, 17, 18, 19, 20] [0, 1, 2, 3, 4, 5, 6, 7, 8, 9, 20, 10, 11, 12, 13, 14, 15, 16, 17, 18, 19] rfl rfl rfl rfl (by decide) rfl (fun _ => rfl) (fun _ => rfl) rfl dX5_isSettled_5 (fun _ => ?_)
  refine s_aload_n C 9 0 rfl dX5_isSettled_8 rfl ?_
  refine s_get (C1 := RX5) (T := TX5) (N := 11) (ci := 4) C 12 0 3 uX5 rfl rfl (Nat.le_of_ble_eq_true rfl) uu136 rfl rfl rfl dX5_isSettled_9 ?_
  obtain ⟨r3, q4, hf⟩ := bn_s hf
  refine s_callV (T := TX3) (N := 4) (ci := 2) (q0 := 10) (rest := []) (wr := [((ad 0), .inr (4, [.ref (ad 1), .ref (ad 4), .ref (ad 7), .ref (ad 10), .ref (ad 11), .ref (ad 12), .ref (ad 14), .ref (ad 15), .ref (ad 16), .int tolds, .int hasImage])), ((ad 1), .inr (0, [.ref (ad 2), .ref (ad 3), .int n_heirs, .int n_left, .int n_bitten])), ((ad 2), .inl (cI, 5, .inl n_kinds)), ((ad 3), .inl (cI, 5, .inl n_figures)), ((ad 4), .inr (0, [.ref (ad 5), .ref (ad 6), .int k_heirs, .int k_left, .int k_bitten])), ((ad 5), .inl (cI, 5, .inl k_kinds)), ((ad 6), .inl (cI, 5, .inl k_figures)), ((ad 7), .inr (0, [.ref (ad 8), .ref (ad 9), .int t_heirs, .int t_left, .int t_bitten])), ((ad 8), .inl (cI, 5, .inl t_kinds)), ((ad 9), .inl (cI, 5, .inl t_figures)), ((ad 11), .inr (1, [.ref (kc 0), .ref (kc 1), .ref (kc 2), .ref (kc 3)])), ((kc 0), .inl (cI, 64, .inl c_ways)), ((kc 1), .inl (cI, 64, .inl c_fewest)), ((kc 2), .inl (cI, 64, .inl c_nextWays)), ((kc 3), .inl (cI, 64, .inl c_nextFewest)), ((ad 12), .inr (3, [.ref (ad 13), .int x_length])), ((ad 13), .inl (cI, 96, .inl x_letters)), ((ad 14), .inl (cI, 16, .inl told)), ((ad 15), .inl (cI, 7, .inl refusals)), ((ad 16), .inl (cI, 4, .inl ends))]) (ws2 := fun _ => (wX ad kc cI tolds hasImage n_heirs n_left n_bitten n_kinds n_figures k_heirs k_left k_bitten k_kinds k_figures t_heirs t_left t_bitten t_kinds t_figures r1.1 r1.2.1 r1.2.2.1 r1.2.2.2 c_ways c_fewest c_nextWays c_nextFewest x_length x_letters told refusals ends)) C 15 (c_X3_isInChancery l D cI adK adV (ad 10) r1.1 r1.2.1 r1.2.2.1 r1.2.2.2 r3 q4) (gV uu622 uu546 uu547 uu3 uu548) hd_X3_isInChancery rfl ⟨rfl, rfl⟩ ⟨Nat.le_of_ble_eq_true rfl, Nat.le_of_ble_eq_true rfl⟩ ⟨Nat.le_of_ble_eq_true rfl, Nat.le_of_ble_eq_true rfl⟩ rfl rfl rfl (Nat.le_of_ble_eq_true rfl) [10] [0, 1, 2, 3, 4, 5, 6, 7, 8, 9, 11, 12, 13, 14, 15, 16, 17, 18, 19, 20] [0, 1, 2, 3, 4, 5, 6, 7, 8, 9, 20, 10, 11, 12, 13, 14, 15, 16, 17, 18, 19] rfl rfl rfl rfl (by decide) rfl (fun _ => rfl) (fun _ => rfl) rfl dX5_isSettled_12 (fun _ => ?_)
  refine s_if_ne C 22 18 rfl dX5_isSettled_15 rfl (fun hc5 => ?_) (fun hc5 => ?_)
  · replace hf := ite_f hc5 hf
    refine s_iconst C 23 rfl dX5_isSettled_22 ic_0 ?_
    obtain rfl := Option.some.inj hf
    exact s_zret C kc hr hlk (Or.inl rfl) rfl rfl dX5_isSettled_23
  · replace hf := ite_t hc5 hf
    refine s_iconst C 19 rfl dX5_isSettled_18 ic_1 ?_
    refine s_goto C 23 dX5_isSettled_19 rfl ?_
    obtain rfl := Option.some.inj hf
    exact s_zret C kc hr hlk (Or.inr rfl) rfl rfl dX5_isSettled_23


theorem hd_X5_firstCellThatSettles : yX5_firstCellThatSettles.cls = RX5 ∧ yX5_firstCellThatSettles.cls ≠ "java/lang/invoke/MethodHandle" ∧ yX5_firstCellThatSettles.cls ≠ "java/lang/invoke/VarHandle" ∧ (parseMethodDescriptor yX5_firstCellThatSettles.desc).map (fun d => d.parameters.length) = some 2 := by decide +kernel
set_option maxHeartbeats 4000000 in
set_option maxRecDepth 100000 in
theorem c_X5_firstCellThatSettles (l : Launch) (D : va_G) (cI : ClassId) (adK adV : Nat → Nat) (ad : Nat → Nat) (kc : Nat → Nat) (tolds : Int32) (hasImage : Int32) (n_heirs : Int32) (n_left : Int32) (n_bitten : Int32) (n_kinds : (Nat → Int32)) (n_figures : (Nat → Int32)) (k_heirs : Int32) (k_left : Int32) (k_bitten : Int32) (k_kinds : (Nat → Int32)) (k_figures : (Nat → Int32)) (t_heirs : Int32) (t_left : Int32) (t_bitten : Int32) (t_kinds : (Nat → Int32)) (t_figures : (Nat → Int32)) (r_gone : Int32) (r_heaps : Int32) (r_fewestCells : Int32) (r_deed : Int32) (c_ways : (Nat → Int32)) (c_fewest : (Nat → Int32)) (c_nextWays : (Nat → Int32)) (c_nextFewest : (Nat → Int32)) (x_length : Int32) (x_letters : (Nat → Int32)) (told : (Nat → Int32)) (refusals : (Nat → Int32)) (ends : (Nat → Int32)) (a1 : Int32) (a2 : Int32) (o : Int32 × Int32 × Int32 × Int32 × Int32) (hf : f_X5_firstCellThatSettles r_gone r_heaps r_fewestCells r_deed a1 a2 = some o) : Ct l D cI adK adV yX5_firstCellThatSettles (wy yX5_firstCellThatSettles cX5_firstCellThatSettles 5 (some .int)) { frames := 4, cells := 0, slots := 0, locals := 92 } 0 0 [.ref (ad 0), .int a1, .int a2] (wX ad kc cI tolds hasImage n_heirs n_left n_bitten n_kinds n_figures k_heirs k_left k_bitten k_kinds k_figures t_heirs t_left t_bitten t_kinds t_figures r_gone r_heaps r_fewestCells r_deed c_ways c_fewest c_nextWays c_nextFewest x_length x_letters told refusals ends) (fun _ => (wX ad kc cI tolds hasImage n_heirs n_left n_bitten n_kinds n_figures k_heirs k_left k_bitten k_kinds k_figures t_heirs t_left t_bitten t_kinds t_figures o.2.1 o.2.2.1 o.2.2.2.1 o.2.2.2.2 c_ways c_fewest c_nextWays c_nextFewest x_length x_letters told refusals ends)) (some (.int o.1)) := by
  refine Ct.of (cc := cX5_firstCellThatSettles) (nL := 5) (ret := (some .int)) (own := RX5) (by decide) (Nat.le_of_ble_eq_true rfl) rfl ?_
  intro p e s m args below meth c A C hr hlk hnm
  refine s_lv (lv1 := [(0, .ref (ad 0)), (1, .int a1), (2, .int a2)]) [0, 1, 2] rfl ?_
  unfold f_X5_firstCellThatSettles at hf
  refine s_iload_n C 1 2 rfl dX5_firstCellThatSettles_0 rfl ?_
  refine s_istore_n (lv1 := [(3, .int a2), (0, .ref (ad 0)), (1, .int a1), (2, .int a2)]) C 2 3 rfl dX5_firstCellThatSettles_1 rfl (Nat.le_of_ble_eq_true rfl) rfl ?_
  refine s_lv (lv1 := [(0, .ref (ad 0)), (1, .int a1), (3, .int a2)]) [1, 2, 0] rfl ?_
  refine s_loop (α := Int32 × Int32 × Int32 × Int32 × Int32) (fun n v6 => f_X5_firstCellThatSettles_2 a1 n v6.1 v6.2.1 v6.2.2.1 v6.2.2.2.1 v6.2.2.2.2) 2 (fun v6 => [(0, .ref (ad 0)), (1, .int a1), (3, .int v6.1)]) (fun v6 => (wX ad kc cI tolds hasImage n_heirs n_left n_bitten n_kinds n_figures k_heirs k_left k_bitten k_kinds k_figures t_heirs t_left t_bitten t_kinds t_figures v6.2.1 v6.2.2.1 v6.2.2.2.1 v6.2.2.2.2 c_ways c_fewest c_nextWays c_nextFewest x_length x_letters told refusals ends)) 1000 (a2, r_gone, r_heaps, r_fewestCells, r_deed) hf (fun v6 hf => by simp only [f_X5_firstCellThatSettles_2] at hf; exact absurd hf (by simp)) (fun n ih7 v6 hf => ?_)
  replace hf := (f_X5_firstCellThatSettles_2_s _ _ _ _ _ _ _).symm.trans hf
  refine s_iload_n C 3 2 rfl dX5_firstCellThatSettles_2 rfl ?_
  refine s_bipush C 5 rfl dX5_firstCellThatSettles_3 bp_25 ?_
  refine s_icmp_ge C 41 8 rfl dX5_firstCellThatSettles_5 rfl (fun hc12 => ?_) (fun hc12 => ?_)
  · replace hf := ite_t hc12 hf
    refine s_bipush C 43 rfl dX5_firstCellThatSettles_41 bp_m9 ?_
    obtain rfl := Option.some.inj hf
    exact s_iret C kc hr hlk rfl rfl dX5_firstCellThatSettles_43
  · replace hf := ite_f hc12 hf
    refine s_iconst C 9 rfl dX5_firstCellThatSettles_8 ic_1 ?_
    refine s_iload_n C 10 2 rfl dX5_firstCellThatSettles_9 rfl ?_
    refine s_ishl C 11 rfl dX5_firstCellThatSettles_10 ?_
    refine s_istore (lv1 := [(4, .int (jshl (1 : Int32) v6.1)), (0, .ref (ad 0)), (1, .int a1), (3, .int v6.1)]) C 13 4 rfl dX5_firstCellThatSettles_11 (Nat.le_of_ble_eq_true rfl) rfl ?_
    refine s_iload_n C 14 2 rfl dX5_firstCellThatSettles_13 rfl ?_
    refine s_iload C 16 0 rfl dX5_firstCellThatSettles_14 rfl ?_
    refine s_iand C 17 rfl dX5_firstCellThatSettles_16 ?_
    refine s_if_eq C 35 20 rfl dX5_firstCellThatSettles_17 rfl (fun hc11 => ?_) (fun hc11 => ?_)
    · replace hf := ite_t hc11 hf
      refine s_iinc (lv1 := [(3, .int (v6.1 + (1 : Int32))), (4, .int (jshl (1 : Int32) v6.1)), (0, .ref (ad 0)), (1, .int a1)]) C 38 3 3 rfl dX5_firstCellThatSettles_35 rfl ic_1 (Nat.le_of_ble_eq_true rfl) rfl ?_
      refine s_goto C 2 dX5_firstCellThatSettles_38 rfl ?_
      exact s_lv [2, 3, 0] rfl (ih7 ((v6.1 + (1 : Int32), v6.2.1, v6.2.2.1, v6.2.2.2.1, v6.2.2.2.2) : Int32 × Int32 × Int32 × Int32 × Int32) hf)
    · replace hf := ite_f hc11 hf
      refine s_aload_n C 21 1 rfl dX5_firstCellThatSettles_20 rfl ?_
      refine s_iload_n C 22 2 rfl dX5_firstCellThatSettles_21 rfl ?_
      refine s_iload C 24 0 rfl dX5_firstCellThatSettles_22 rfl ?_
      refine s_iconst C 25 rfl dX5_firstCellThatSettles_24 ic_m1 ?_
      refine s_ixor C 26 rfl dX5_firstCellThatSettles_25 ?_
      refine s_iand C 27 rfl dX5_firstCellThatSettles_26 ?_
      obtain ⟨r8, q9, hf⟩ := bn_s hf
      refine s_callW (T := TX5) (N := 11) (ci := 4) (q0 := 0) (rest := []) C 30 (c_X5_isSettled l D cI adK adV ad kc tolds hasImage n_heirs n_left n_bitten n_kinds n_figures k_heirs k_left k_bitten k_kinds k_figures t_heirs t_left t_bitten t_kinds t_figures v6.2.1 v6.2.2.1 v6.2.2.2.1 v6.2.2.2.2 c_ways c_fewest c_nextWays c_nextFewest x_length x_letters told refusals ends (a1 &&& ((jshl (1 : Int32) v6.1) ^^^ (-1 : Int32))) r8 q9) (gV uu730 uu732 uu1557 uu1 uu733) hd_X5_isSettled rfl ⟨rfl, rfl⟩ ⟨Nat.le_of_ble_eq_true rfl, Nat.le_of_ble_eq_true rfl⟩ ⟨Nat.le_of_ble_eq_true rfl, Nat.le_of_ble_eq_true rfl⟩ rfl rfl rfl (Nat.le_of_ble_eq_true rfl) rfl dX5_firstCellThatSettles_27 (fun _ => ?_)
      refine s_if_eq C 35 33 rfl dX5_firstCellThatSettles_30 rfl (fun hc10 => ?_) (fun hc10 => ?_)
      · replace hf := ite_t hc10 hf
        refine s_iinc (lv1 := [(3, .int (v6.1 + (1 : Int32))), (4, .int (jshl (1 : Int32) v6.1)), (0, .ref (ad 0)), (1, .int a1)]) C 38 3 3 rfl dX5_firstCellThatSettles_35 rfl ic_1 (Nat.le_of_ble_eq_true rfl) rfl ?_
        refine s_goto C 2 dX5_firstCellThatSettles_38 rfl ?_
        exact s_lv [2, 3, 0] rfl (ih7 ((v6.1 + (1 : Int32), r8.2.1, r8.2.2.1, r8.2.2.2.1, r8.2.2.2.2) : Int32 × Int32 × Int32 × Int32 × Int32) hf)
      · replace hf := ite_f hc10 hf
        refine s_iload_n C 34 3 rfl dX5_firstCellThatSettles_33 rfl ?_
        obtain rfl := Option.some.inj hf
        exact s_iret C kc hr hlk rfl rfl dX5_firstCellThatSettles_34


theorem hd_X5_fitsTold : yX5_fitsTold.cls = RX5 ∧ yX5_fitsTold.cls ≠ "java/lang/invoke/MethodHandle" ∧ yX5_fitsTold.cls ≠ "java/lang/invoke/VarHandle" ∧ (parseMethodDescriptor yX5_fitsTold.desc).map (fun d => d.parameters.length) = some 2 := by decide +kernel
set_option maxHeartbeats 4000000 in
set_option maxRecDepth 100000 in
theorem c_X5_fitsTold (l : Launch) (D : va_G) (cI : ClassId) (adK adV : Nat → Nat) (ad : Nat → Nat) (kc : Nat → Nat) (tolds : Int32) (hasImage : Int32) (n_heirs : Int32) (n_left : Int32) (n_bitten : Int32) (n_kinds : (Nat → Int32)) (n_figures : (Nat → Int32)) (k_heirs : Int32) (k_left : Int32) (k_bitten : Int32) (k_kinds : (Nat → Int32)) (k_figures : (Nat → Int32)) (t_heirs : Int32) (t_left : Int32) (t_bitten : Int32) (t_kinds : (Nat → Int32)) (t_figures : (Nat → Int32)) (r_gone : Int32) (r_heaps : Int32) (r_fewestCells : Int32) (r_deed : Int32) (c_ways : (Nat → Int32)) (c_fewest : (Nat → Int32)) (c_nextWays : (Nat → Int32)) (c_nextFewest : (Nat → Int32)) (x_length : Int32) (x_letters : (Nat → Int32)) (told : (Nat → Int32)) (refusals : (Nat → Int32)) (ends : (Nat → Int32)) (a1 : Int32) (a2 : Int32) (o : Int32 × Int32 × Int32 × Int32 × Int32) (hf : f_X5_fitsTold tolds n_left r_gone r_heaps r_fewestCells r_deed told a1 a2 = some o) : Ct l D cI adK adV yX5_fitsTold (wy yX5_fitsTold cX5_fitsTold 5 (some .boolean)) { frames := 3, cells := 0, slots := 0, locals := 71 } 0 0 [.ref (ad 0), .int a1, .int a2] (wX ad kc cI tolds hasImage n_heirs n_left n_bitten n_kinds n_figures k_heirs k_left k_bitten k_kinds k_figures t_heirs t_left t_bitten t_kinds t_figures r_gone r_heaps r_fewestCells r_deed c_ways c_fewest c_nextWays c_nextFewest x_length x_letters told refusals ends) (fun _ => (wX ad kc cI tolds hasImage n_heirs n_left n_bitten n_kinds n_figures k_heirs k_left k_bitten k_kinds k_figures t_heirs t_left t_bitten t_kinds t_figures o.2.1 o.2.2.1 o.2.2.2.1 o.2.2.2.2 c_ways c_fewest c_nextWays c_nextFewest x_length x_letters told refusals ends)) (some (.int o.1)) := by
  refine Ct.of (cc := cX5_fitsTold) (nL := 5) (ret := (some .boolean)) (own := RX5) (by decide) (Nat.le_of_ble_eq_true rfl) rfl ?_
  intro p e s m args below meth c A C hr hlk hnm
  refine s_lv (lv1 := [(0, .ref (ad 0)), (1, .int a1), (2, .int a2)]) [0, 1, 2] rfl ?_
  unfold f_X5_fitsTold at hf
  refine s_iconst C 1 rfl dX5_fitsTold_0 ic_0 ?_
  refine s_istore_n (lv1 := [(3, .int (0 : Int32)), (0, .ref (ad 0)), (1, .int a1), (2, .int a2)]) C 2 3 rfl dX5_fitsTold_1 rfl (Nat.le_of_ble_eq_true rfl) rfl ?_
  refine s_lv (lv1 := [(0, .ref (ad 0)), (1, .int a1), (2, .int a2), (3, .int (0 : Int32))]) [1, 2, 3, 0] rfl ?_
  refine s_loop (α := Int32 × Int32 × Int32 × Int32 × Int32) (fun n v10 => f_X5_fitsTold_2 a1 a2 tolds n_left told n v10.1 v10.2.1 v10.2.2.1 v10.2.2.2.1 v10.2.2.2.2) 2 (fun v10 => [(0, .ref (ad 0)), (1, .int a1), (2, .int a2), (3, .int v10.1)]) (fun v10 => (wX ad kc cI tolds hasImage n_heirs n_left n_bitten n_kinds n_figures k_heirs k_left k_bitten k_kinds k_figures t_heirs t_left t_bitten t_kinds t_figures v10.2.1 v10.2.2.1 v10.2.2.2.1 v10.2.2.2.2 c_ways c_fewest c_nextWays c_nextFewest x_length x_letters told refusals ends)) 1000 ((0 : Int32), r_gone, r_heaps, r_fewestCells, r_deed) hf (fun v10 hf => by simp only [f_X5_fitsTold_2] at hf; exact absurd hf (by simp)) (fun n ih11 v10 hf => ?_)
  replace hf := (f_X5_fitsTold_2_s _ _ _ _ _ _ _ _ _ _ _).symm.trans hf
  refine s_iload_n C 3 3 rfl dX5_fitsTold_2 rfl ?_
  refine s_aload_n C 4 0 rfl dX5_fitsTold_3 rfl ?_
  refine s_get (C1 := RX5) (T := TX5) (N := 11) (ci := 4) C 7 0 9 uX5 rfl rfl (Nat.le_of_ble_eq_true rfl) uu148 rfl rfl rfl dX5_fitsTold_4 ?_
  refine s_icmp_ge C 70 10 rfl dX5_fitsTold_7 rfl (fun hc20 => ?_) (fun hc20 => ?_)
  · replace hf := ite_t hc20 hf
    refine s_iconst C 71 rfl dX5_fitsTold_70 ic_1 ?_
    obtain rfl := Option.some.inj hf
    exact s_zret C kc hr hlk (Or.inr rfl) rfl rfl dX5_fitsTold_71
  · replace hf := ite_f hc20 hf
    refine s_iload_n C 11 3 rfl dX5_fitsTold_10 rfl ?_
    refine s_jn (α := Int32) 23 (fun j12 => [(0, .ref (ad 0)), (1, .int a1), (2, .int a2), (3, .int v10.1)]) (fun j12 => [.int j12]) (fun j12 => (wX ad kc cI tolds hasImage n_heirs n_left n_bitten n_kinds n_figures k_heirs k_left k_bitten k_kinds k_figures t_heirs t_left t_bitten t_kinds t_figures v10.2.1 v10.2.2.1 v10.2.2.2.1 v10.2.2.2.2 c_ways c_fewest c_nextWays c_nextFewest x_length x_letters told refusals ends)) hf (fun j12 hf => ?_) (fun hj hf => ?_)
    · refine s_istore (lv1 := [(4, .int j12), (0, .ref (ad 0)), (1, .int a1), (2, .int a2), (3, .int v10.1)]) C 25 4 rfl dX5_fitsTold_23 (Nat.le_of_ble_eq_true rfl) rfl ?_
      refine s_aload_n C 26 1 rfl dX5_fitsTold_25 rfl ?_
      refine s_get (C1 := RX5) (T := TX5) (N := 11) (ci := 4) C 29 0 3 uX5 rfl rfl (Nat.le_of_ble_eq_true rfl) uu136 rfl rfl rfl dX5_fitsTold_26 ?_
      refine s_aload_n C 30 1 rfl dX5_fitsTold_29 rfl ?_
      refine s_get (C1 := RX5) (T := TX5) (N := 11) (ci := 4) C 33 0 0 uX5 rfl rfl (Nat.le_of_ble_eq_true rfl) uu130 rfl rfl rfl dX5_fitsTold_30 ?_
      refine s_get (C1 := RX0) (T := TX0) (N := 5) (ci := 0) C 36 1 3 uX0 rfl rfl (Nat.le_of_ble_eq_true rfl) uu53 rfl rfl rfl dX5_fitsTold_33 ?_
      refine s_iload C 38 0 rfl dX5_fitsTold_36 rfl ?_
      refine s_iconst C 39 rfl dX5_fitsTold_38 ic_m1 ?_
      refine s_ixor C 40 rfl dX5_fitsTold_39 ?_
      refine s_iand C 41 rfl dX5_fitsTold_40 ?_
      obtain ⟨r14, q15, hf⟩ := bn_s hf
      refine s_callV (T := TX3) (N := 4) (ci := 2) (q0 := 10) (rest := []) (wr := [((ad 0), .inr (4, [.ref (ad 1), .ref (ad 4), .ref (ad 7), .ref (ad 10), .ref (ad 11), .ref (ad 12), .ref (ad 14), .ref (ad 15), .ref (ad 16), .int tolds, .int hasImage])), ((ad 1), .inr (0, [.ref (ad 2), .ref (ad 3), .int n_heirs, .int n_left, .int n_bitten])), ((ad 2), .inl (cI, 5, .inl n_kinds)), ((ad 3), .inl (cI, 5, .inl n_figures)), ((ad 4), .inr (0, [.ref (ad 5), .ref (ad 6), .int k_heirs, .int k_left, .int k_bitten])), ((ad 5), .inl (cI, 5, .inl k_kinds)), ((ad 6), .inl (cI, 5, .inl k_figures)), ((ad 7), .inr (0, [.ref (ad 8), .ref (ad 9), .int t_heirs, .int t_left, .int t_bitten])), ((ad 8), .inl (cI, 5, .inl t_kinds)), ((ad 9), .inl (cI, 5, .inl t_figures)), ((ad 11), .inr (1, [.ref (kc 0), .ref (kc 1), .ref (kc 2), .ref (kc 3)])), ((kc 0), .inl (cI, 64, .inl c_ways)), ((kc 1), .inl (cI, 64, .inl c_fewest)), ((kc 2), .inl (cI, 64, .inl c_nextWays)), ((kc 3), .inl (cI, 64, .inl c_nextFewest)), ((ad 12), .inr (3, [.ref (ad 13), .int x_length])), ((ad 13), .inl (cI, 96, .inl x_letters)), ((ad 14), .inl (cI, 16, .inl told)), ((ad 15), .inl (cI, 7, .inl refusals)), ((ad 16), .inl (cI, 4, .inl ends))]) (ws2 := fun _ => (wX ad kc cI tolds hasImage n_heirs n_left n_bitten n_kinds n_figures k_heirs k_left k_bitten k_kinds k_figures t_heirs t_left t_bitten t_kinds t_figures r14.1 r14.2.1 r14.2.2.1 r14.2.2.2 c_ways c_fewest c_nextWays c_nextFewest x_length x_letters told refusals ends)) C 44 (c_X3_reads l D cI adK adV (ad 10) v10.2.1 v10.2.2.1 v10.2.2.2.1 v10.2.2.2.2 (n_left &&& (j12 ^^^ (-1 : Int32))) r14 q15) (gV uu521 uu523 uu524 uu3 uu525) hd_X3_reads rfl ⟨rfl, rfl⟩ ⟨Nat.le_of_ble_eq_true rfl, Nat.le_of_ble_eq_true rfl⟩ ⟨Nat.le_of_ble_eq_true rfl, Nat.le_of_ble_eq_true rfl⟩ rfl rfl rfl (Nat.le_of_ble_eq_true rfl) [10] [0, 1, 2, 3, 4, 5, 6, 7, 8, 9, 11, 12, 13, 14, 15, 16, 17, 18, 19, 20] [0, 1, 2, 3, 4, 5, 6, 7, 8, 9, 20, 10, 11, 12, 13, 14, 15, 16, 17, 18, 19] rfl rfl rfl rfl (by decide) rfl (fun _ => rfl) (fun _ => rfl) rfl dX5_fitsTold_41 (fun _ => ?_)
      refine s_aload_n C 45 1 rfl dX5_fitsTold_44 rfl ?_
      refine s_get (C1 := RX5) (T := TX5) (N := 11) (ci := 4) C 48 0 3 uX5 rfl rfl (Nat.le_of_ble_eq_true rfl) uu136 rfl rfl rfl dX5_fitsTold_45 ?_
      refine s_iload_n C 49 2 rfl dX5_fitsTold_48 rfl ?_
      refine s_iload_n C 50 3 rfl dX5_fitsTold_49 rfl ?_
      obtain ⟨r16, q17, hf⟩ := bn_s hf
      refine s_callV (T := TX3) (N := 4) (ci := 2) (q0 := 10) (rest := []) (wr := [((ad 0), .inr (4, [.ref (ad 1), .ref (ad 4), .ref (ad 7), .ref (ad 10), .ref (ad 11), .ref (ad 12), .ref (ad 14), .ref (ad 15), .ref (ad 16), .int tolds, .int hasImage])), ((ad 1), .inr (0, [.ref (ad 2), .ref (ad 3), .int n_heirs, .int n_left, .int n_bitten])), ((ad 2), .inl (cI, 5, .inl n_kinds)), ((ad 3), .inl (cI, 5, .inl n_figures)), ((ad 4), .inr (0, [.ref (ad 5), .ref (ad 6), .int k_heirs, .int k_left, .int k_bitten])), ((ad 5), .inl (cI, 5, .inl k_kinds)), ((ad 6), .inl (cI, 5, .inl k_figures)), ((ad 7), .inr (0, [.ref (ad 8), .ref (ad 9), .int t_heirs, .int t_left, .int t_bitten])), ((ad 8), .inl (cI, 5, .inl t_kinds)), ((ad 9), .inl (cI, 5, .inl t_figures)), ((ad 11), .inr (1, [.ref (kc 0), .ref (kc 1), .ref (kc 2), .ref (kc 3)])), ((kc 0), .inl (cI, 64, .inl c_ways)), ((kc 1), .inl (cI, 64, .inl c_fewest)), ((kc 2), .inl (cI, 64, .inl c_nextWays)), ((kc 3), .inl (cI, 64, .inl c_nextFewest)), ((ad 12), .inr (3, [.ref (ad 13), .int x_length])), ((ad 13), .inl (cI, 96, .inl x_letters)), ((ad 14), .inl (cI, 16, .inl told)), ((ad 15), .inl (cI, 7, .inl refusals)), ((ad 16), .inl (cI, 4, .inl ends))]) (ws2 := fun _ => (wX ad kc cI tolds hasImage n_heirs n_left n_bitten n_kinds n_figures k_heirs k_left k_bitten k_kinds k_figures t_heirs t_left t_bitten t_kinds t_figures r14.1 r14.2.1 r14.2.2.1 r14.2.2.2 c_ways c_fewest c_nextWays c_nextFewest x_length x_letters told refusals ends)) C 53 (c_X3_shareBy l D cI adK adV (ad 10) r14.1 r14.2.1 r14.2.2.1 r14.2.2.2 a1 a2 r16 q17) (gV uu538 uu540 uu541 uu3 uu542) hd_X3_shareBy rfl ⟨rfl, rfl⟩ ⟨Nat.le_of_ble_eq_true rfl, Nat.le_of_ble_eq_true rfl⟩ ⟨Nat.le_of_ble_eq_true rfl, Nat.le_of_ble_eq_true rfl⟩ rfl rfl rfl (Nat.le_of_ble_eq_true rfl) [10] [0, 1, 2, 3, 4, 5, 6, 7, 8, 9, 11, 12, 13, 14, 15, 16, 17, 18, 19, 20] [0, 1, 2, 3, 4, 5, 6, 7, 8, 9, 20, 10, 11, 12, 13, 14, 15, 16, 17, 18, 19] rfl rfl rfl rfl (by decide) rfl (fun _ => rfl) (fun _ => rfl) rfl dX5_fitsTold_50 (fun _ => ?_)
      refine s_aload_n C 54 1 rfl dX5_fitsTold_53 rfl ?_
      refine s_get (C1 := RX5) (T := TX5) (N := 11) (ci := 4) C 57 0 6 uX5 rfl rfl (Nat.le_of_ble_eq_true rfl) uu142 rfl rfl rfl dX5_fitsTold_54 ?_
      refine s_iload_n C 58 4 rfl dX5_fitsTold_57 rfl ?_
      obtain ⟨h18, hf⟩ := ck_in hf
      refine s_iald C 59 18 rfl h18 rfl dX5_fitsTold_58 ?_
      refine s_icmp_eq C 64 62 rfl dX5_fitsTold_59 rfl (fun hc19 => ?_) (fun hc19 => ?_)
      · replace hf := ite_t hc19 hf
        refine s_iinc (lv1 := [(3, .int (v10.1 + (1 : Int32))), (4, .int j12), (0, .ref (ad 0)), (1, .int a1), (2, .int a2)]) C 67 3 4 rfl dX5_fitsTold_64 rfl ic_1 (Nat.le_of_ble_eq_true rfl) rfl ?_
        refine s_goto C 2 dX5_fitsTold_67 rfl ?_
        exact s_lv [2, 3, 4, 0] rfl (ih11 ((v10.1 + (1 : Int32), r14.1, r14.2.1, r14.2.2.1, r14.2.2.2) : Int32 × Int32 × Int32 × Int32 × Int32) hf)
      · replace hf := ite_f hc19 hf
        refine s_iconst C 63 rfl dX5_fitsTold_62 ic_0 ?_
        obtain rfl := Option.some.inj hf
        exact s_zret C kc hr hlk (Or.inl rfl) rfl rfl dX5_fitsTold_63
    · refine s_if_ne C 18 14 rfl dX5_fitsTold_11 rfl (fun hc13 => ?_) (fun hc13 => ?_)
      · replace hf := jn_f hc13 hf
        refine s_iconst C 19 rfl dX5_fitsTold_18 ic_1 ?_
        refine s_iload_n C 20 3 rfl dX5_fitsTold_19 rfl ?_
        refine s_iconst C 21 rfl dX5_fitsTold_20 ic_1 ?_
        refine s_isub C 22 rfl dX5_fitsTold_21 ?_
        refine s_ishl C 23 rfl dX5_fitsTold_22 ?_
        replace hf := jn_i hf
        exact s_lv [0, 1, 2, 3] rfl (hj (jshl (1 : Int32) (v10.1 - (1 : Int32)) : Int32) hf)
      · replace hf := jn_t hc13 hf
        refine s_iconst C 15 rfl dX5_fitsTold_14 ic_0 ?_
        refine s_goto C 23 dX5_fitsTold_15 rfl ?_
        replace hf := jn_i hf
        exact s_lv [0, 1, 2, 3] rfl (hj ((0 : Int32) : Int32) hf)


theorem hd_X5_firstWronglyTold : yX5_firstWronglyTold.cls = RX5 ∧ yX5_firstWronglyTold.cls ≠ "java/lang/invoke/MethodHandle" ∧ yX5_firstWronglyTold.cls ≠ "java/lang/invoke/VarHandle" ∧ (parseMethodDescriptor yX5_firstWronglyTold.desc).map (fun d => d.parameters.length) = some 0 := by decide +kernel
set_option maxHeartbeats 4000000 in
set_option maxRecDepth 100000 in
theorem c_X5_firstWronglyTold (l : Launch) (D : va_G) (cI : ClassId) (adK adV : Nat → Nat) (ad : Nat → Nat) (kc : Nat → Nat) (tolds : Int32) (hasImage : Int32) (n_heirs : Int32) (n_left : Int32) (n_bitten : Int32) (n_kinds : (Nat → Int32)) (n_figures : (Nat → Int32)) (k_heirs : Int32) (k_left : Int32) (k_bitten : Int32) (k_kinds : (Nat → Int32)) (k_figures : (Nat → Int32)) (t_heirs : Int32) (t_left : Int32) (t_bitten : Int32) (t_kinds : (Nat → Int32)) (t_figures : (Nat → Int32)) (r_gone : Int32) (r_heaps : Int32) (r_fewestCells : Int32) (r_deed : Int32) (c_ways : (Nat → Int32)) (c_fewest : (Nat → Int32)) (c_nextWays : (Nat → Int32)) (c_nextFewest : (Nat → Int32)) (x_length : Int32) (x_letters : (Nat → Int32)) (told : (Nat → Int32)) (refusals : (Nat → Int32)) (ends : (Nat → Int32))  (o : Int32 × Int32 × Int32 × Int32 × Int32) (hf : f_X5_firstWronglyTold tolds n_heirs n_left n_kinds n_figures told = some o) : Ct l D cI adK adV yX5_firstWronglyTold (wy yX5_firstWronglyTold cX5_firstWronglyTold 2 (some .int)) { frames := 3, cells := 0, slots := 0, locals := 71 } 0 0 [.ref (ad 0)] (wX ad kc cI tolds hasImage n_heirs n_left n_bitten n_kinds n_figures k_heirs k_left k_bitten k_kinds k_figures t_heirs t_left t_bitten t_kinds t_figures r_gone r_heaps r_fewestCells r_deed c_ways c_fewest c_nextWays c_nextFewest x_length x_letters told refusals ends) (fun _ => (wX ad kc cI tolds hasImage n_heirs n_left n_bitten n_kinds n_figures k_heirs k_left k_bitten k_kinds k_figures t_heirs t_left t_bitten t_kinds t_figures o.2.1 o.2.2.1 o.2.2.2.1 o.2.2.2.2 c_ways c_fewest c_nextWays c_nextFewest x_length x_letters told refusals ends)) (some (.int o.1)) := by
  refine Ct.of (cc := cX5_firstWronglyTold) (nL := 2) (ret := (some .int)) (own := RX5) (by decide) (Nat.le_of_ble_eq_true rfl) rfl ?_
  intro p e s m args below meth c A C hr hlk hnm
  refine s_lv (lv1 := [(0, .ref (ad 0))]) [0] rfl ?_
  unfold f_X5_firstWronglyTold at hf
  refine s_aload_n C 1 0 rfl dX5_firstWronglyTold_0 rfl ?_
  refine s_get (C1 := RX5) (T := TX5) (N := 11) (ci := 4) C 4 0 3 uX5 rfl rfl (Nat.le_of_ble_eq_true rfl) uu136 rfl rfl rfl dX5_firstWronglyTold_1 ?_
  refine s_aload_n C 5 0 rfl dX5_firstWronglyTold_4 rfl ?_
  refine s_get (C1 := RX5) (T := TX5) (N := 11) (ci := 4) C 8 0 0 uX5 rfl rfl (Nat.le_of_ble_eq_true rfl) uu130 rfl rfl rfl dX5_firstWronglyTold_5 ?_
  refine s_get (C1 := RX0) (T := TX0) (N := 5) (ci := 0) C 11 1 3 uX0 rfl rfl (Nat.le_of_ble_eq_true rfl) uu53 rfl rfl rfl dX5_firstWronglyTold_8 ?_
  obtain ⟨r1, q2, hf⟩ := bn_s hf
  refine s_callV (T := TX3) (N := 4) (ci := 2) (q0 := 10) (rest := []) (wr := [((ad 0), .inr (4, [.ref (ad 1), .ref (ad 4), .ref (ad 7), .ref (ad 10), .ref (ad 11), .ref (ad 12), .ref (ad 14), .ref (ad 15), .ref (ad 16), .int tolds, .int hasImage])), ((ad 1), .inr (0, [.ref (ad 2), .ref (ad 3), .int n_heirs, .int n_left, .int n_bitten])), ((ad 2), .inl (cI, 5, .inl n_kinds)), ((ad 3), .inl (cI, 5, .inl n_figures)), ((ad 4), .inr (0, [.ref (ad 5), .ref (ad 6), .int k_heirs, .int k_left, .int k_bitten])), ((ad 5), .inl (cI, 5, .inl k_kinds)), ((ad 6), .inl (cI, 5, .inl k_figures)), ((ad 7), .inr (0, [.ref (ad 8), .ref (ad 9), .int t_heirs, .int t_left, .int t_bitten])), ((ad 8), .inl (cI, 5, .inl t_kinds)), ((ad 9), .inl (cI, 5, .inl t_figures)), ((ad 11), .inr (1, [.ref (kc 0), .ref (kc 1), .ref (kc 2), .ref (kc 3)])), ((kc 0), .inl (cI, 64, .inl c_ways)), ((kc 1), .inl (cI, 64, .inl c_fewest)), ((kc 2), .inl (cI, 64, .inl c_nextWays)), ((kc 3), .inl (cI, 64, .inl c_nextFewest)), ((ad 12), .inr (3, [.ref (ad 13), .int x_length])), ((ad 13), .inl (cI, 96, .inl x_letters)), ((ad 14), .inl (cI, 16, .inl told)), ((ad 15), .inl (cI, 7, .inl refusals)), ((ad 16), .inl (cI, 4, .inl ends))]) (ws2 := fun _ => (wX ad kc cI tolds hasImage n_heirs n_left n_bitten n_kinds n_figures k_heirs k_left k_bitten k_kinds k_figures t_heirs t_left t_bitten t_kinds t_figures r1.1 r1.2.1 r1.2.2.1 r1.2.2.2 c_ways c_fewest c_nextWays c_nextFewest x_length x_letters told refusals ends)) C 14 (c_X3_reads l D cI adK adV (ad 10) r_gone r_heaps r_fewestCells r_deed n_left r1 q2) (gV uu521 uu523 uu524 uu3 uu525) hd_X3_reads rfl ⟨rfl, rfl⟩ ⟨Nat.le_of_ble_eq_true rfl, Nat.le_of_ble_eq_true rfl⟩ ⟨Nat.le_of_ble_eq_true rfl, Nat.le_of_ble_eq_true rfl⟩ rfl rfl rfl (Nat.le_of_ble_eq_true rfl) [10] [0, 1, 2, 3, 4, 5, 6, 7, 8, 9, 11, 12, 13, 14, 15, 16, 17, 18, 19, 20] [0, 1, 2, 3, 4, 5, 6, 7, 8, 9, 20, 10, 11, 12, 13, 14, 15, 16, 17, 18, 19] rfl rfl rfl rfl (by decide) rfl (fun _ => rfl) (fun _ => rfl) rfl dX5_firstWronglyTold_11 (fun _ => ?_)
  refine s_iconst C 15 rfl dX5_firstWronglyTold_14 ic_0 ?_
  refine s_istore_n (lv1 := [(1, .int (0 : Int32)), (0, .ref (ad 0))]) C 16 1 rfl dX5_firstWronglyTold_15 rfl (Nat.le_of_ble_eq_true rfl) rfl ?_
  refine s_lv (lv1 := [(0, .ref (ad 0)), (1, .int (0 : Int32))]) [1, 0] rfl ?_
  refine s_loop (α := Int32) (fun n v9 => f_X5_firstWronglyTold_16 tolds n_heirs n_kinds n_figures r1.1 r1.2.1 r1.2.2.1 r1.2.2.2 told n v9) 16 (fun v9 => [(0, .ref (ad 0)), (1, .int v9)]) (fun v9 => (wX ad kc cI tolds hasImage n_heirs n_left n_bitten n_kinds n_figures k_heirs k_left k_bitten k_kinds k_figures t_heirs t_left t_bitten t_kinds t_figures r1.1 r1.2.1 r1.2.2.1 r1.2.2.2 c_ways c_fewest c_nextWays c_nextFewest x_length x_letters told refusals ends)) 1000 (0 : Int32) hf (fun v9 hf => by simp only [f_X5_firstWronglyTold_16] at hf; exact absurd hf (by simp)) (fun n ih10 v9 hf => ?_)
  replace hf := (f_X5_firstWronglyTold_16_s _ _ _ _ _ _ _ _ _ _ _).symm.trans hf
  refine s_iload_n C 17 1 rfl dX5_firstWronglyTold_16 rfl ?_
  refine s_aload_n C 18 0 rfl dX5_firstWronglyTold_17 rfl ?_
  refine s_get (C1 := RX5) (T := TX5) (N := 11) (ci := 4) C 21 0 9 uX5 rfl rfl (Nat.le_of_ble_eq_true rfl) uu148 rfl rfl rfl dX5_firstWronglyTold_18 ?_
  refine s_icmp_ge C 57 24 rfl dX5_firstWronglyTold_21 rfl (fun hc16 => ?_) (fun hc16 => ?_)
  · replace hf := ite_t hc16 hf
    refine s_bipush C 59 rfl dX5_firstWronglyTold_57 bp_m9 ?_
    obtain rfl := Option.some.inj hf
    exact s_iret C kc hr hlk rfl rfl dX5_firstWronglyTold_59
  · replace hf := ite_f hc16 hf
    refine s_iload_n C 25 1 rfl dX5_firstWronglyTold_24 rfl ?_
    refine s_aload_n C 26 0 rfl dX5_firstWronglyTold_25 rfl ?_
    refine s_get (C1 := RX5) (T := TX5) (N := 11) (ci := 4) C 29 0 0 uX5 rfl rfl (Nat.le_of_ble_eq_true rfl) uu130 rfl rfl rfl dX5_firstWronglyTold_26 ?_
    refine s_get (C1 := RX0) (T := TX0) (N := 5) (ci := 0) C 32 1 2 uX0 rfl rfl (Nat.le_of_ble_eq_true rfl) uu49 rfl rfl rfl dX5_firstWronglyTold_29 ?_
    refine s_icmp_ge C 49 35 rfl dX5_firstWronglyTold_32 rfl (fun hc15 => ?_) (fun hc15 => ?_)
    · replace hf := ite_t hc15 hf
      refine s_iload_n C 50 1 rfl dX5_firstWronglyTold_49 rfl ?_
      obtain rfl := Option.some.inj hf
      exact s_iret C kc hr hlk rfl rfl dX5_firstWronglyTold_50
    · replace hf := ite_f hc15 hf
      refine s_aload_n C 36 0 rfl dX5_firstWronglyTold_35 rfl ?_
      refine s_iload_n C 37 1 rfl dX5_firstWronglyTold_36 rfl ?_
      obtain ⟨r11, q12, hf⟩ := bn_s hf
      refine s_callW (T := TX5) (N := 11) (ci := 4) (q0 := 0) (rest := []) C 40 (c_X5_readShare l D cI adK adV ad kc tolds hasImage n_heirs n_left n_bitten n_kinds n_figures k_heirs k_left k_bitten k_kinds k_figures t_heirs t_left t_bitten t_kinds t_figures r1.1 r1.2.1 r1.2.2.1 r1.2.2.2 c_ways c_fewest c_nextWays c_nextFewest x_length x_letters told refusals ends v9 r11 q12) (gV uu533 uu535 uu1549 uu1 uu536) hd_X5_readShare rfl ⟨rfl, rfl⟩ ⟨Nat.le_of_ble_eq_true rfl, Nat.le_of_ble_eq_true rfl⟩ ⟨Nat.le_of_ble_eq_true rfl, Nat.le_of_ble_eq_true rfl⟩ rfl rfl rfl (Nat.le_of_ble_eq_true rfl) rfl dX5_firstWronglyTold_37 (fun _ => ?_)
      refine s_aload_n C 41 0 rfl dX5_firstWronglyTold_40 rfl ?_
      refine s_get (C1 := RX5) (T := TX5) (N := 11) (ci := 4) C 44 0 6 uX5 rfl rfl (Nat.le_of_ble_eq_true rfl) uu142 rfl rfl rfl dX5_firstWronglyTold_41 ?_
      refine s_iload_n C 45 1 rfl dX5_firstWronglyTold_44 rfl ?_
      obtain ⟨h13, hf⟩ := ck_in hf
      refine s_iald C 46 18 rfl h13 rfl dX5_firstWronglyTold_45 ?_
      refine s_icmp_eq C 51 49 rfl dX5_firstWronglyTold_46 rfl (fun hc14 => ?_) (fun hc14 => ?_)
      · replace hf := ite_t hc14 hf
        refine s_iinc (lv1 := [(1, .int (v9 + (1 : Int32))), (0, .ref (ad 0))]) C 54 1 1 rfl dX5_firstWronglyTold_51 rfl ic_1 (Nat.le_of_ble_eq_true rfl) rfl ?_
        refine s_goto C 16 dX5_firstWronglyTold_54 rfl ?_
        exact s_lv [1, 0] rfl (ih10 (v9 + (1 : Int32) : Int32) hf)
      · replace hf := ite_f hc14 hf
        refine s_iload_n C 50 1 rfl dX5_firstWronglyTold_49 rfl ?_
        obtain rfl := Option.some.inj hf
        exact s_iret C kc hr hlk rfl rfl dX5_firstWronglyTold_50


theorem hd_X5_shareOf : yX5_shareOf.cls = RX5 ∧ yX5_shareOf.cls ≠ "java/lang/invoke/MethodHandle" ∧ yX5_shareOf.cls ≠ "java/lang/invoke/VarHandle" ∧ (parseMethodDescriptor yX5_shareOf.desc).map (fun d => d.parameters.length) = some 2 := by decide +kernel
set_option maxHeartbeats 4000000 in
set_option maxRecDepth 100000 in
theorem c_X5_shareOf (l : Launch) (D : va_G) (cI : ClassId) (adK adV : Nat → Nat) (ad : Nat → Nat) (kc : Nat → Nat) (tolds : Int32) (hasImage : Int32) (n_heirs : Int32) (n_left : Int32) (n_bitten : Int32) (n_kinds : (Nat → Int32)) (n_figures : (Nat → Int32)) (k_heirs : Int32) (k_left : Int32) (k_bitten : Int32) (k_kinds : (Nat → Int32)) (k_figures : (Nat → Int32)) (t_heirs : Int32) (t_left : Int32) (t_bitten : Int32) (t_kinds : (Nat → Int32)) (t_figures : (Nat → Int32)) (r_gone : Int32) (r_heaps : Int32) (r_fewestCells : Int32) (r_deed : Int32) (c_ways : (Nat → Int32)) (c_fewest : (Nat → Int32)) (c_nextWays : (Nat → Int32)) (c_nextFewest : (Nat → Int32)) (x_length : Int32) (x_letters : (Nat → Int32)) (told : (Nat → Int32)) (refusals : (Nat → Int32)) (ends : (Nat → Int32)) (a1 : Int32) (a2 : Int32) (o : Int32 × Int32 × Int32 × Int32 × Int32) (hf : f_X5_shareOf n_kinds n_figures a1 a2 = some o) : Ct l D cI adK adV yX5_shareOf (wy yX5_shareOf cX5_shareOf 3 (some .int)) { frames := 3, cells := 0, slots := 0, locals := 71 } 0 0 [.ref (ad 0), .int a1, .int a2] (wX ad kc cI tolds hasImage n_heirs n_left n_bitten n_kinds n_figures k_heirs k_left k_bitten k_kinds k_figures t_heirs t_left t_bitten t_kinds t_figures r_gone r_heaps r_fewestCells r_deed c_ways c_fewest c_nextWays c_nextFewest x_length x_letters told refusals ends) (fun _ => (wX ad kc cI tolds hasImage n_heirs n_left n_bitten n_kinds n_figures k_heirs k_left k_bitten k_kinds k_figures t_heirs t_left t_bitten t_kinds t_figures o.2.1 o.2.2.1 o.2.2.2.1 o.2.2.2.2 c_ways c_fewest c_nextWays c_nextFewest x_length x_letters told refusals ends)) (some (.int o.1)) := by
  refine Ct.of (cc := cX5_shareOf) (nL := 3) (ret := (some .int)) (own := RX5) (by decide) (Nat.le_of_ble_eq_true rfl) rfl ?_
  intro p e s m args below meth c A C hr hlk hnm
  refine s_lv (lv1 := [(0, .ref (ad 0)), (1, .int a1), (2, .int a2)]) [0, 1, 2] rfl ?_
  unfold f_X5_shareOf at hf
  refine s_aload_n C 1 0 rfl dX5_shareOf_0 rfl ?_
  refine s_get (C1 := RX5) (T := TX5) (N := 11) (ci := 4) C 4 0 3 uX5 rfl rfl (Nat.le_of_ble_eq_true rfl) uu136 rfl rfl rfl dX5_shareOf_1 ?_
  refine s_iload_n C 5 2 rfl dX5_shareOf_4 rfl ?_
  obtain ⟨r1, q2, hf⟩ := bn_s hf
  refine s_callV (T := TX3) (N := 4) (ci := 2) (q0 := 10) (rest := []) (wr := [((ad 0), .inr (4, [.ref (ad 1), .ref (ad 4), .ref (ad 7), .ref (ad 10), .ref (ad 11), .ref (ad 12), .ref (ad 14), .ref (ad 15), .ref (ad 16), .int tolds, .int hasImage])), ((ad 1), .inr (0, [.ref (ad 2), .ref (ad 3), .int n_heirs, .int n_left, .int n_bitten])), ((ad 2), .inl (cI, 5, .inl n_kinds)), ((ad 3), .inl (cI, 5, .inl n_figures)), ((ad 4), .inr (0, [.ref (ad 5), .ref (ad 6), .int k_heirs, .int k_left, .int k_bitten])), ((ad 5), .inl (cI, 5, .inl k_kinds)), ((ad 6), .inl (cI, 5, .inl k_figures)), ((ad 7), .inr (0, [.ref (ad 8), .ref (ad 9), .int t_heirs, .int t_left, .int t_bitten])), ((ad 8), .inl (cI, 5, .inl t_kinds)), ((ad 9), .inl (cI, 5, .inl t_figures)), ((ad 11), .inr (1, [.ref (kc 0), .ref (kc 1), .ref (kc 2), .ref (kc 3)])), ((kc 0), .inl (cI, 64, .inl c_ways)), ((kc 1), .inl (cI, 64, .inl c_fewest)), ((kc 2), .inl (cI, 64, .inl c_nextWays)), ((kc 3), .inl (cI, 64, .inl c_nextFewest)), ((ad 12), .inr (3, [.ref (ad 13), .int x_length])), ((ad 13), .inl (cI, 96, .inl x_letters)), ((ad 14), .inl (cI, 16, .inl told)), ((ad 15), .inl (cI, 7, .inl refusals)), ((ad 16), .inl (cI, 4, .inl ends))]) (ws2 := fun _ => (wX ad kc cI tolds hasImage n_heirs n_left n_bitten n_kinds n_figures k_heirs k_left k_bitten k_kinds k_figures t_heirs t_left t_bitten t_kinds t_figures r1.1 r1.2.1 r1.2.2.1 r1.2.2.2 c_ways c_fewest c_nextWays c_nextFewest x_length x_letters told refusals ends)) C 8 (c_X3_reads l D cI adK adV (ad 10) r_gone r_heaps r_fewestCells r_deed a2 r1 q2) (gV uu521 uu523 uu524 uu3 uu525) hd_X3_reads rfl ⟨rfl, rfl⟩ ⟨Nat.le_of_ble_eq_true rfl, Nat.le_of_ble_eq_true rfl⟩ ⟨Nat.le_of_ble_eq_true rfl, Nat.le_of_ble_eq_true rfl⟩ rfl rfl rfl (Nat.le_of_ble_eq_true rfl) [10] [0, 1, 2, 3, 4, 5, 6, 7, 8, 9, 11, 12, 13, 14, 15, 16, 17, 18, 19, 20] [0, 1, 2, 3, 4, 5, 6, 7, 8, 9, 20, 10, 11, 12, 13, 14, 15, 16, 17, 18, 19] rfl rfl rfl rfl (by decide) rfl (fun _ => rfl) (fun _ => rfl) rfl dX5_shareOf_5 (fun _ => ?_)
  refine s_aload_n C 9 0 rfl dX5_shareOf_8 rfl ?_
  refine s_iload_n C 10 1 rfl dX5_shareOf_9 rfl ?_
  obtain ⟨r3, q4, hf⟩ := bn_s hf
  refine s_callW (T := TX5) (N := 11) (ci := 4) (q0 := 0) (rest := []) C 13 (c_X5_readShare l D cI adK adV ad kc tolds hasImage n_heirs n_left n_bitten n_kinds n_figures k_heirs k_left k_bitten k_kinds k_figures t_heirs t_left t_bitten t_kinds t_figures r1.1 r1.2.1 r1.2.2.1 r1.2.2.2 c_ways c_fewest c_nextWays c_nextFewest x_length x_letters told refusals ends a1 r3 q4) (gV uu533 uu535 uu1549 uu1 uu536) hd_X5_readShare rfl ⟨rfl, rfl⟩ ⟨Nat.le_of_ble_eq_true rfl, Nat.le_of_ble_eq_true rfl⟩ ⟨Nat.le_of_ble_eq_true rfl, Nat.le_of_ble_eq_true rfl⟩ rfl rfl rfl (Nat.le_of_ble_eq_true rfl) rfl dX5_shareOf_10 (fun _ => ?_)
  obtain rfl := Option.some.inj hf
  exact s_iret C kc hr hlk rfl rfl dX5_shareOf_13


theorem hd_X5_changesNobody : yX5_changesNobody.cls = RX5 ∧ yX5_changesNobody.cls ≠ "java/lang/invoke/MethodHandle" ∧ yX5_changesNobody.cls ≠ "java/lang/invoke/VarHandle" ∧ (parseMethodDescriptor yX5_changesNobody.desc).map (fun d => d.parameters.length) = some 1 := by decide +kernel
set_option maxHeartbeats 4000000 in
set_option maxRecDepth 100000 in
theorem c_X5_changesNobody (l : Launch) (D : va_G) (cI : ClassId) (adK adV : Nat → Nat) (ad : Nat → Nat) (kc : Nat → Nat) (tolds : Int32) (hasImage : Int32) (n_heirs : Int32) (n_left : Int32) (n_bitten : Int32) (n_kinds : (Nat → Int32)) (n_figures : (Nat → Int32)) (k_heirs : Int32) (k_left : Int32) (k_bitten : Int32) (k_kinds : (Nat → Int32)) (k_figures : (Nat → Int32)) (t_heirs : Int32) (t_left : Int32) (t_bitten : Int32) (t_kinds : (Nat → Int32)) (t_figures : (Nat → Int32)) (r_gone : Int32) (r_heaps : Int32) (r_fewestCells : Int32) (r_deed : Int32) (c_ways : (Nat → Int32)) (c_fewest : (Nat → Int32)) (c_nextWays : (Nat → Int32)) (c_nextFewest : (Nat → Int32)) (x_length : Int32) (x_letters : (Nat → Int32)) (told : (Nat → Int32)) (refusals : (Nat → Int32)) (ends : (Nat → Int32)) (a1 : Int32) (o : Int32 × Int32 × Int32 × Int32 × Int32) (hf : f_X5_changesNobody n_heirs n_left n_kinds n_figures r_gone r_heaps r_fewestCells r_deed a1 = some o) : Ct l D cI adK adV yX5_changesNobody (wy yX5_changesNobody cX5_changesNobody 3 (some .boolean)) { frames := 4, cells := 0, slots := 0, locals := 93 } 0 0 [.ref (ad 0), .int a1] (wX ad kc cI tolds hasImage n_heirs n_left n_bitten n_kinds n_figures k_heirs k_left k_bitten k_kinds k_figures t_heirs t_left t_bitten t_kinds t_figures r_gone r_heaps r_fewestCells r_deed c_ways c_fewest c_nextWays c_nextFewest x_length x_letters told refusals ends) (fun _ => (wX ad kc cI tolds hasImage n_heirs n_left n_bitten n_kinds n_figures k_heirs k_left k_bitten k_kinds k_figures t_heirs t_left t_bitten t_kinds t_figures o.2.1 o.2.2.1 o.2.2.2.1 o.2.2.2.2 c_ways c_fewest c_nextWays c_nextFewest x_length x_letters told refusals ends)) (some (.int o.1)) := by
  refine Ct.of (cc := cX5_changesNobody) (nL := 3) (ret := (some .boolean)) (own := RX5) (by decide) (Nat.le_of_ble_eq_true rfl) rfl ?_
  intro p e s m args below meth c A C hr hlk hnm
  refine s_lv (lv1 := [(0, .ref (ad 0)), (1, .int a1)]) [0, 1] rfl ?_
  unfold f_X5_changesNobody at hf
  refine s_iconst C 1 rfl dX5_changesNobody_0 ic_0 ?_
  refine s_istore_n (lv1 := [(2, .int (0 : Int32)), (0, .ref (ad 0)), (1, .int a1)]) C 2 2 rfl dX5_changesNobody_1 rfl (Nat.le_of_ble_eq_true rfl) rfl ?_
  refine s_lv (lv1 := [(0, .ref (ad 0)), (1, .int a1), (2, .int (0 : Int32))]) [1, 2, 0] rfl ?_
  refine s_loop (α := Int32 × Int32 × Int32 × Int32 × Int32) (fun n v7 => f_X5_changesNobody_2 a1 n_heirs n_left n_kinds n_figures n v7.1 v7.2.1 v7.2.2.1 v7.2.2.2.1 v7.2.2.2.2) 2 (fun v7 => [(0, .ref (ad 0)), (1, .int a1), (2, .int v7.1)]) (fun v7 => (wX ad kc cI tolds hasImage n_heirs n_left n_bitten n_kinds n_figures k_heirs k_left k_bitten k_kinds k_figures t_heirs t_left t_bitten t_kinds t_figures v7.2.1 v7.2.2.1 v7.2.2.2.1 v7.2.2.2.2 c_ways c_fewest c_nextWays c_nextFewest x_length x_letters told refusals ends)) 1000 ((0 : Int32), r_gone, r_heaps, r_fewestCells, r_deed) hf (fun v7 hf => by simp only [f_X5_changesNobody_2] at hf; exact absurd hf (by simp)) (fun n ih8 v7 hf => ?_)
  replace hf := (f_X5_changesNobody_2_s _ _ _ _ _ _ _ _ _ _ _).symm.trans hf
  refine s_iload_n C 3 2 rfl dX5_changesNobody_2 rfl ?_
  refine s_aload_n C 4 0 rfl dX5_changesNobody_3 rfl ?_
  refine s_get (C1 := RX5) (T := TX5) (N := 11) (ci := 4) C 7 0 0 uX5 rfl rfl (Nat.le_of_ble_eq_true rfl) uu130 rfl rfl rfl dX5_changesNobody_4 ?_
  refine s_get (C1 := RX0) (T := TX0) (N := 5) (ci := 0) C 10 1 2 uX0 rfl rfl (Nat.le_of_ble_eq_true rfl) uu49 rfl rfl rfl dX5_changesNobody_7 ?_
  refine s_icmp_ge C 42 13 rfl dX5_changesNobody_10 rfl (fun hc14 => ?_) (fun hc14 => ?_)
  · replace hf := ite_t hc14 hf
    refine s_iconst C 43 rfl dX5_changesNobody_42 ic_1 ?_
    obtain rfl := Option.some.inj hf
    exact s_zret C kc hr hlk (Or.inr rfl) rfl rfl dX5_changesNobody_43
  · replace hf := ite_f hc14 hf
    refine s_aload_n C 14 0 rfl dX5_changesNobody_13 rfl ?_
    refine s_iload_n C 15 2 rfl dX5_changesNobody_14 rfl ?_
    refine s_iload_n C 16 1 rfl dX5_changesNobody_15 rfl ?_
    obtain ⟨r9, q10, hf⟩ := bn_s hf
    refine s_callW (T := TX5) (N := 11) (ci := 4) (q0 := 0) (rest := []) C 19 (c_X5_shareOf l D cI adK adV ad kc tolds hasImage n_heirs n_left n_bitten n_kinds n_figures k_heirs k_left k_bitten k_kinds k_figures t_heirs t_left t_bitten t_kinds t_figures v7.2.1 v7.2.2.1 v7.2.2.2.1 v7.2.2.2.2 c_ways c_fewest c_nextWays c_nextFewest x_length x_letters told refusals ends v7.1 a1 r9 q10) (gV uu516 uu518 uu1548 uu1 uu519) hd_X5_shareOf rfl ⟨rfl, rfl⟩ ⟨Nat.le_of_ble_eq_true rfl, Nat.le_of_ble_eq_true rfl⟩ ⟨Nat.le_of_ble_eq_true rfl, Nat.le_of_ble_eq_true rfl⟩ rfl rfl rfl (Nat.le_of_ble_eq_true rfl) rfl dX5_changesNobody_16 (fun _ => ?_)
    refine s_aload_n C 20 0 rfl dX5_changesNobody_19 rfl ?_
    refine s_iload_n C 21 2 rfl dX5_changesNobody_20 rfl ?_
    refine s_aload_n C 22 0 rfl dX5_changesNobody_21 rfl ?_
    refine s_get (C1 := RX5) (T := TX5) (N := 11) (ci := 4) C 25 0 0 uX5 rfl rfl (Nat.le_of_ble_eq_true rfl) uu130 rfl rfl rfl dX5_changesNobody_22 ?_
    refine s_get (C1 := RX0) (T := TX0) (N := 5) (ci := 0) C 28 1 3 uX0 rfl rfl (Nat.le_of_ble_eq_true rfl) uu53 rfl rfl rfl dX5_changesNobody_25 ?_
    obtain ⟨r11, q12, hf⟩ := bn_s hf
    refine s_callW (T := TX5) (N := 11) (ci := 4) (q0 := 0) (rest := [.int r9.1]) C 31 (c_X5_shareOf l D cI adK adV ad kc tolds hasImage n_heirs n_left n_bitten n_kinds n_figures k_heirs k_left k_bitten k_kinds k_figures t_heirs t_left t_bitten t_kinds t_figures r9.2.1 r9.2.2.1 r9.2.2.2.1 r9.2.2.2.2 c_ways c_fewest c_nextWays c_nextFewest x_length x_letters told refusals ends v7.1 n_left r11 q12) (gV uu516 uu518 uu1548 uu1 uu519) hd_X5_shareOf rfl ⟨rfl, rfl⟩ ⟨Nat.le_of_ble_eq_true rfl, Nat.le_of_ble_eq_true rfl⟩ ⟨Nat.le_of_ble_eq_true rfl, Nat.le_of_ble_eq_true rfl⟩ rfl rfl rfl (Nat.le_of_ble_eq_true rfl) rfl dX5_changesNobody_28 (fun _ => ?_)
    refine s_icmp_eq C 36 34 rfl dX5_changesNobody_31 rfl (fun hc13 => ?_) (fun hc13 => ?_)
    · replace hf := ite_t hc13 hf
      refine s_iinc (lv1 := [(2, .int (v7.1 + (1 : Int32))), (0, .ref (ad 0)), (1, .int a1)]) C 39 2 2 rfl dX5_changesNobody_36 rfl ic_1 (Nat.le_of_ble_eq_true rfl) rfl ?_
      refine s_goto C 2 dX5_changesNobody_39 rfl ?_
      exact s_lv [1, 2, 0] rfl (ih8 ((v7.1 + (1 : Int32), r11.2.1, r11.2.2.1, r11.2.2.2.1, r11.2.2.2.2) : Int32 × Int32 × Int32 × Int32 × Int32) hf)
    · replace hf := ite_f hc13 hf
      refine s_iconst C 35 rfl dX5_changesNobody_34 ic_0 ?_
      obtain rfl := Option.some.inj hf
      exact s_zret C kc hr hlk (Or.inl rfl) rfl rfl dX5_changesNobody_35


theorem hd_X5_toldBite : yX5_toldBite.cls = RX5 ∧ yX5_toldBite.cls ≠ "java/lang/invoke/MethodHandle" ∧ yX5_toldBite.cls ≠ "java/lang/invoke/VarHandle" ∧ (parseMethodDescriptor yX5_toldBite.desc).map (fun d => d.parameters.length) = some 3 := by decide +kernel
set_option maxHeartbeats 4000000 in
set_option maxRecDepth 100000 in
theorem c_X5_toldBite (l : Launch) (D : va_G) (cI : ClassId) (adK adV : Nat → Nat) (ad : Nat → Nat) (kc : Nat → Nat) (tolds : Int32) (hasImage : Int32) (n_heirs : Int32) (n_left : Int32) (n_bitten : Int32) (n_kinds : (Nat → Int32)) (n_figures : (Nat → Int32)) (k_heirs : Int32) (k_left : Int32) (k_bitten : Int32) (k_kinds : (Nat → Int32)) (k_figures : (Nat → Int32)) (t_heirs : Int32) (t_left : Int32) (t_bitten : Int32) (t_kinds : (Nat → Int32)) (t_figures : (Nat → Int32)) (r_gone : Int32) (r_heaps : Int32) (r_fewestCells : Int32) (r_deed : Int32) (c_ways : (Nat → Int32)) (c_fewest : (Nat → Int32)) (c_nextWays : (Nat → Int32)) (c_nextFewest : (Nat → Int32)) (x_length : Int32) (x_letters : (Nat → Int32)) (told : (Nat → Int32)) (refusals : (Nat → Int32)) (ends : (Nat → Int32)) (a1 : Int32) (a2 : Int32) (a3 : Int32) (o : Int32 × Int32 × Int32 × Int32 × Int32) (hf : f_X5_toldBite n_left n_kinds n_figures r_gone r_heaps r_fewestCells r_deed a1 a2 a3 = some o) : Ct l D cI adK adV yX5_toldBite (wy yX5_toldBite cX5_toldBite 4 (some .int)) { frames := 4, cells := 0, slots := 0, locals := 93 } 0 0 [.ref (ad 0), .int a1, .int a2, .int a3] (wX ad kc cI tolds hasImage n_heirs n_left n_bitten n_kinds n_figures k_heirs k_left k_bitten k_kinds k_figures t_heirs t_left t_bitten t_kinds t_figures r_gone r_heaps r_fewestCells r_deed c_ways c_fewest c_nextWays c_nextFewest x_length x_letters told refusals ends) (fun _ => (wX ad kc cI tolds hasImage n_heirs n_left n_bitten n_kinds n_figures k_heirs k_left k_bitten k_kinds k_figures t_heirs t_left t_bitten t_kinds t_figures o.2.1 o.2.2.1 o.2.2.2.1 o.2.2.2.2 c_ways c_fewest c_nextWays c_nextFewest x_length x_letters told refusals ends)) (some (.int o.1)) := by
  refine Ct.of (cc := cX5_toldBite) (nL := 4) (ret := (some .int)) (own := RX5) (by decide) (Nat.le_of_ble_eq_true rfl) rfl ?_
  intro p e s m args below meth c A C hr hlk hnm
  refine s_lv (lv1 := [(0, .ref (ad 0)), (1, .int a1), (2, .int a2), (3, .int a3)]) [0, 1, 2, 3] rfl ?_
  unfold f_X5_toldBite at hf
  refine s_iload_n C 1 2 rfl dX5_toldBite_0 rfl ?_
  refine s_iconst C 2 rfl dX5_toldBite_1 ic_m1 ?_
  refine s_icmp_ne C 8 5 rfl dX5_toldBite_2 rfl (fun hc8 => ?_) (fun hc8 => ?_)
  · replace hf := ite_f hc8 hf
    refine s_iload_n C 9 3 rfl dX5_toldBite_8 rfl ?_
    refine s_if_ne C 19 12 rfl dX5_toldBite_9 rfl (fun hc7 => ?_) (fun hc7 => ?_)
    · replace hf := ite_f hc7 hf
      refine s_aload_n C 20 0 rfl dX5_toldBite_19 rfl ?_
      refine s_iload_n C 21 1 rfl dX5_toldBite_20 rfl ?_
      refine s_iload_n C 22 2 rfl dX5_toldBite_21 rfl ?_
      refine s_aload_n C 23 0 rfl dX5_toldBite_22 rfl ?_
      refine s_get (C1 := RX5) (T := TX5) (N := 11) (ci := 4) C 26 0 0 uX5 rfl rfl (Nat.le_of_ble_eq_true rfl) uu130 rfl rfl rfl dX5_toldBite_23 ?_
      refine s_get (C1 := RX0) (T := TX0) (N := 5) (ci := 0) C 29 1 3 uX0 rfl rfl (Nat.le_of_ble_eq_true rfl) uu53 rfl rfl rfl dX5_toldBite_26 ?_
      obtain ⟨r1, q2, hf⟩ := bn_s hf
      refine s_callS0 (host := "") (rest := [.int a1, .ref (ad 0)]) C 32 (c_X2_behind l D cI adK adV a2 n_left r1 q2) (gS uu657 uu659 uu14 uu660) hd_X2_behind rfl ⟨rfl, rfl⟩ ⟨Nat.le_of_ble_eq_true rfl, Nat.le_of_ble_eq_true rfl⟩ ⟨Nat.le_of_ble_eq_true rfl, Nat.le_of_ble_eq_true rfl⟩ rfl (Nat.le_of_ble_eq_true rfl) rfl dX5_toldBite_29 ?_
      obtain ⟨r3, q4, hf⟩ := bn_s hf
      refine s_callW (T := TX5) (N := 11) (ci := 4) (q0 := 0) (rest := []) C 35 (c_X5_shareOf l D cI adK adV ad kc tolds hasImage n_heirs n_left n_bitten n_kinds n_figures k_heirs k_left k_bitten k_kinds k_figures t_heirs t_left t_bitten t_kinds t_figures r_gone r_heaps r_fewestCells r_deed c_ways c_fewest c_nextWays c_nextFewest x_length x_letters told refusals ends a1 r1 r3 q4) (gV uu516 uu518 uu1548 uu1 uu519) hd_X5_shareOf rfl ⟨rfl, rfl⟩ ⟨Nat.le_of_ble_eq_true rfl, Nat.le_of_ble_eq_true rfl⟩ ⟨Nat.le_of_ble_eq_true rfl, Nat.le_of_ble_eq_true rfl⟩ rfl rfl rfl (Nat.le_of_ble_eq_true rfl) rfl dX5_toldBite_32 (fun _ => ?_)
      obtain rfl := Option.some.inj hf
      exact s_iret C kc hr hlk rfl rfl dX5_toldBite_35
    · replace hf := ite_t hc7 hf
      refine s_iload_n C 13 2 rfl dX5_toldBite_12 rfl ?_
      obtain ⟨r5, q6, hf⟩ := bn_s hf
      refine s_callS0 (host := "") (rest := []) C 16 (c_X5_bitesName l D cI adK adV a2 r5 q6) (gS uu804 uu806 uu1 uu807) hd_X5_bitesName rfl ⟨rfl, rfl⟩ ⟨Nat.le_of_ble_eq_true rfl, Nat.le_of_ble_eq_true rfl⟩ ⟨Nat.le_of_ble_eq_true rfl, Nat.le_of_ble_eq_true rfl⟩ rfl (Nat.le_of_ble_eq_true rfl) rfl dX5_toldBite_13 ?_
      refine s_goto C 35 dX5_toldBite_16 rfl ?_
      obtain rfl := Option.some.inj hf
      exact s_iret C kc hr hlk rfl rfl dX5_toldBite_35
  · replace hf := ite_t hc8 hf
    refine s_bipush C 7 rfl dX5_toldBite_5 bp_m9 ?_
    obtain rfl := Option.some.inj hf
    exact s_iret C kc hr hlk rfl rfl dX5_toldBite_7


theorem hd_X5_furthestBite : yX5_furthestBite.cls = RX5 ∧ yX5_furthestBite.cls ≠ "java/lang/invoke/MethodHandle" ∧ yX5_furthestBite.cls ≠ "java/lang/invoke/VarHandle" ∧ (parseMethodDescriptor yX5_furthestBite.desc).map (fun d => d.parameters.length) = some 3 := by decide +kernel
set_option maxHeartbeats 4000000 in
set_option maxRecDepth 100000 in
theorem c_X5_furthestBite (l : Launch) (D : va_G) (cI : ClassId) (adK adV : Nat → Nat) (ad : Nat → Nat) (kc : Nat → Nat) (tolds : Int32) (hasImage : Int32) (n_heirs : Int32) (n_left : Int32) (n_bitten : Int32) (n_kinds : (Nat → Int32)) (n_figures : (Nat → Int32)) (k_heirs : Int32) (k_left : Int32) (k_bitten : Int32) (k_kinds : (Nat → Int32)) (k_figures : (Nat → Int32)) (t_heirs : Int32) (t_left : Int32) (t_bitten : Int32) (t_kinds : (Nat → Int32)) (t_figures : (Nat → Int32)) (r_gone : Int32) (r_heaps : Int32) (r_fewestCells : Int32) (r_deed : Int32) (c_ways : (Nat → Int32)) (c_fewest : (Nat → Int32)) (c_nextWays : (Nat → Int32)) (c_nextFewest : (Nat → Int32)) (x_length : Int32) (x_letters : (Nat → Int32)) (told : (Nat → Int32)) (refusals : (Nat → Int32)) (ends : (Nat → Int32)) (a1 : Int32) (a2 : Int32) (a3 : Int32) (o : Int32 × Int32 × Int32 × Int32 × Int32) (hf : f_X5_furthestBite n_kinds n_figures a1 a2 a3 = some o) : Ct l D cI adK adV yX5_furthestBite (wy yX5_furthestBite cX5_furthestBite 9 (some .int)) { frames := 4, cells := 0, slots := 0, locals := 93 } 0 0 [.ref (ad 0), .int a1, .int a2, .int a3] (wX ad kc cI tolds hasImage n_heirs n_left n_bitten n_kinds n_figures k_heirs k_left k_bitten k_kinds k_figures t_heirs t_left t_bitten t_kinds t_figures r_gone r_heaps r_fewestCells r_deed c_ways c_fewest c_nextWays c_nextFewest x_length x_letters told refusals ends) (fun _ => (wX ad kc cI tolds hasImage n_heirs n_left n_bitten n_kinds n_figures k_heirs k_left k_bitten k_kinds k_figures t_heirs t_left t_bitten t_kinds t_figures o.2.1 o.2.2.1 o.2.2.2.1 o.2.2.2.2 c_ways c_fewest c_nextWays c_nextFewest x_length x_letters told refusals ends)) (some (.int o.1)) := by
  refine Ct.of (cc := cX5_furthestBite) (nL := 9) (ret := (some .int)) (own := RX5) (by decide) (Nat.le_of_ble_eq_true rfl) rfl ?_
  intro p e s m args below meth c A C hr hlk hnm
  refine s_lv (lv1 := [(0, .ref (ad 0)), (1, .int a1), (2, .int a2), (3, .int a3)]) [0, 1, 2, 3] rfl ?_
  unfold f_X5_furthestBite at hf
  refine s_iconst C 1 rfl dX5_furthestBite_0 ic_m1 ?_
  refine s_istore (lv1 := [(4, .int (-1 : Int32)), (0, .ref (ad 0)), (1, .int a1), (2, .int a2), (3, .int a3)]) C 3 4 rfl dX5_furthestBite_1 (Nat.le_of_ble_eq_true rfl) rfl ?_
  refine s_iload_n C 4 4 rfl dX5_furthestBite_3 rfl ?_
  refine s_aload_n C 5 1 rfl dX5_furthestBite_4 rfl ?_
  refine s_iload_n C 6 2 rfl dX5_furthestBite_5 rfl ?_
  refine s_iload_n C 7 3 rfl dX5_furthestBite_6 rfl ?_
  obtain ⟨r1, q2, hf⟩ := bn_s hf
  refine s_callW (T := TX5) (N := 11) (ci := 4) (q0 := 0) (rest := [.int a3]) C 10 (c_X5_shareOf l D cI adK adV ad kc tolds hasImage n_heirs n_left n_bitten n_kinds n_figures k_heirs k_left k_bitten k_kinds k_figures t_heirs t_left t_bitten t_kinds t_figures r_gone r_heaps r_fewestCells r_deed c_ways c_fewest c_nextWays c_nextFewest x_length x_letters told refusals ends a1 a2 r1 q2) (gV uu516 uu518 uu1548 uu1 uu519) hd_X5_shareOf rfl ⟨rfl, rfl⟩ ⟨Nat.le_of_ble_eq_true rfl, Nat.le_of_ble_eq_true rfl⟩ ⟨Nat.le_of_ble_eq_true rfl, Nat.le_of_ble_eq_true rfl⟩ rfl rfl rfl (Nat.le_of_ble_eq_true rfl) rfl dX5_furthestBite_7 (fun _ => ?_)
  refine s_imul C 11 rfl dX5_furthestBite_10 ?_
  refine s_istore (lv1 := [(5, .int (a3 * r1.1)), (4, .int (-1 : Int32)), (0, .ref (ad 0)), (1, .int a1), (2, .int a2), (3, .int a3)]) C 13 5 rfl dX5_furthestBite_11 (Nat.le_of_ble_eq_true rfl) rfl ?_
  refine s_iconst C 14 rfl dX5_furthestBite_13 ic_0 ?_
  refine s_istore (lv1 := [(6, .int (0 : Int32)), (5, .int (a3 * r1.1)), (4, .int (-1 : Int32)), (0, .ref (ad 0)), (1, .int a1), (2, .int a2), (3, .int a3)]) C 16 6 rfl dX5_furthestBite_14 (Nat.le_of_ble_eq_true rfl) rfl ?_
  refine s_lv (lv1 := [(0, .ref (ad 0)), (1, .int a1), (2, .int a2), (3, .int a3), (4, .int (-1 : Int32)), (5, .int (a3 * r1.1)), (6, .int (0 : Int32))]) [3, 4, 5, 6, 2, 1, 0] rfl ?_
  refine s_loop (α := Int32 × Int32 × Int32 × Int32 × Int32 × Int32 × Int32) (fun n v11 => f_X5_furthestBite_16 a1 a2 a3 n_kinds n_figures n v11.1 v11.2.1 v11.2.2.1 v11.2.2.2.1 v11.2.2.2.2.1 v11.2.2.2.2.2.1 v11.2.2.2.2.2.2) 16 (fun v11 => [(0, .ref (ad 0)), (1, .int a1), (2, .int a2), (3, .int a3), (4, .int v11.1), (5, .int v11.2.1), (6, .int v11.2.2.1)]) (fun v11 => (wX ad kc cI tolds hasImage n_heirs n_left n_bitten n_kinds n_figures k_heirs k_left k_bitten k_kinds k_figures t_heirs t_left t_bitten t_kinds t_figures v11.2.2.2.1 v11.2.2.2.2.1 v11.2.2.2.2.2.1 v11.2.2.2.2.2.2 c_ways c_fewest c_nextWays c_nextFewest x_length x_letters told refusals ends)) 1000 ((-1 : Int32), a3 * r1.1, (0 : Int32), r1.2.1, r1.2.2.1, r1.2.2.2.1, r1.2.2.2.2) hf (fun v11 hf => by simp only [f_X5_furthestBite_16] at hf; exact absurd hf (by simp)) (fun n ih12 v11 hf => ?_)
  replace hf := (f_X5_furthestBite_16_s _ _ _ _ _ _ _ _ _ _ _ _ _).symm.trans hf
  refine s_iload C 18 6 rfl dX5_furthestBite_16 rfl ?_
  refine s_bipush C 20 rfl dX5_furthestBite_18 bp_100 ?_
  refine s_icmp_ge C 72 23 rfl dX5_furthestBite_20 rfl (fun hc20 => ?_) (fun hc20 => ?_)
  · replace hf := ite_t hc20 hf
    refine s_iload C 74 4 rfl dX5_furthestBite_72 rfl ?_
    obtain rfl := Option.some.inj hf
    exact s_iret C kc hr hlk rfl rfl dX5_furthestBite_74
  · replace hf := ite_f hc20 hf
    refine s_iload C 25 6 rfl dX5_furthestBite_23 rfl ?_
    refine s_iload_n C 26 2 rfl dX5_furthestBite_25 rfl ?_
    obtain ⟨r13, q14, hf⟩ := bn_s hf
    refine s_callS0 (host := "") (rest := []) C 29 (c_X2_behind l D cI adK adV v11.2.2.1 a2 r13 q14) (gS uu657 uu659 uu14 uu660) hd_X2_behind rfl ⟨rfl, rfl⟩ ⟨Nat.le_of_ble_eq_true rfl, Nat.le_of_ble_eq_true rfl⟩ ⟨Nat.le_of_ble_eq_true rfl, Nat.le_of_ble_eq_true rfl⟩ rfl (Nat.le_of_ble_eq_true rfl) rfl dX5_furthestBite_26 ?_
    refine s_istore (lv1 := [(7, .int r13), (0, .ref (ad 0)), (1, .int a1), (2, .int a2), (3, .int a3), (4, .int v11.1), (5, .int v11.2.1), (6, .int v11.2.2.1)]) C 31 7 rfl dX5_furthestBite_29 (Nat.le_of_ble_eq_true rfl) rfl ?_
    refine s_iload C 33 0 rfl dX5_furthestBite_31 rfl ?_
    refine s_iload_n C 34 3 rfl dX5_furthestBite_33 rfl ?_
    refine s_bn (α := Int32 × Int32 × Int32 × Int32 × Int32 × Int32) 66 (fun j15 => [(0, .ref (ad 0)), (1, .int a1), (2, .int a2), (3, .int a3), (4, .int j15.1), (5, .int j15.2.1), (6, .int v11.2.2.1)]) (fun j15 => []) (fun j15 => (wX ad kc cI tolds hasImage n_heirs n_left n_bitten n_kinds n_figures k_heirs k_left k_bitten k_kinds k_figures t_heirs t_left t_bitten t_kinds t_figures j15.2.2.2.2.1 j15.2.2.2.2.2 j15.2.2.2.1 j15.2.2.1 c_ways c_fewest c_nextWays c_nextFewest x_length x_letters told refusals ends)) hf (fun j15 hf => ?_) (fun hj hf => ?_)
    · refine s_iinc (lv1 := [(6, .int (v11.2.2.1 + (1 : Int32))), (0, .ref (ad 0)), (1, .int a1), (2, .int a2), (3, .int a3), (4, .int j15.1), (5, .int j15.2.1)]) C 69 6 6 rfl dX5_furthestBite_66 rfl ic_1 (Nat.le_of_ble_eq_true rfl) rfl ?_
      refine s_goto C 16 dX5_furthestBite_69 rfl ?_
      exact s_lv [1, 2, 3, 4, 5, 6, 0] rfl (ih12 ((j15.1, j15.2.1, v11.2.2.1 + (1 : Int32), j15.2.2.2.2.1, j15.2.2.2.2.2, j15.2.2.2.1, j15.2.2.1) : Int32 × Int32 × Int32 × Int32 × Int32 × Int32 × Int32) hf)
    · refine s_icmp_ne C 40 37 rfl dX5_furthestBite_34 rfl (fun hc19 => ?_) (fun hc19 => ?_)
      · replace hf := bn_f hc19 hf
        refine s_iload_n C 41 4 rfl dX5_furthestBite_40 rfl ?_
        refine s_aload_n C 42 1 rfl dX5_furthestBite_41 rfl ?_
        refine s_iload_n C 43 2 rfl dX5_furthestBite_42 rfl ?_
        refine s_iload C 45 0 rfl dX5_furthestBite_43 rfl ?_
        obtain ⟨r16, q17, hf⟩ := bn_b hf
        refine s_callW (T := TX5) (N := 11) (ci := 4) (q0 := 0) (rest := [.int a3]) C 48 (c_X5_shareOf l D cI adK adV ad kc tolds hasImage n_heirs n_left n_bitten n_kinds n_figures k_heirs k_left k_bitten k_kinds k_figures t_heirs t_left t_bitten t_kinds t_figures v11.2.2.2.1 v11.2.2.2.2.1 v11.2.2.2.2.2.1 v11.2.2.2.2.2.2 c_ways c_fewest c_nextWays c_nextFewest x_length x_letters told refusals ends a1 r13 r16 q17) (gV uu516 uu518 uu1548 uu1 uu519) hd_X5_shareOf rfl ⟨rfl, rfl⟩ ⟨Nat.le_of_ble_eq_true rfl, Nat.le_of_ble_eq_true rfl⟩ ⟨Nat.le_of_ble_eq_true rfl, Nat.le_of_ble_eq_true rfl⟩ rfl rfl rfl (Nat.le_of_ble_eq_true rfl) rfl dX5_furthestBite_45 (fun _ => ?_)
        refine s_imul C 49 rfl dX5_furthestBite_48 ?_
        refine s_istore (lv1 := [(8, .int (a3 * r16.1)), (7, .int r13), (0, .ref (ad 0)), (1, .int a1), (2, .int a2), (3, .int a3), (4, .int v11.1), (5, .int v11.2.1), (6, .int v11.2.2.1)]) C 51 8 rfl dX5_furthestBite_49 (Nat.le_of_ble_eq_true rfl) rfl ?_
        refine s_iload C 53 0 rfl dX5_furthestBite_51 rfl ?_
        refine s_iload C 55 7 rfl dX5_furthestBite_53 rfl ?_
        refine s_icmp_le C 66 58 rfl dX5_furthestBite_55 rfl (fun hc18 => ?_) (fun hc18 => ?_)
        · replace hf := bn_t hc18 hf
          replace hf := bn_i hf
          exact s_lv [2, 3, 4, 5, 6, 7, 8] rfl (hj ((v11.1, v11.2.1, r16.2.2.2.2, r16.2.2.2.1, r16.2.1, r16.2.2.1) : Int32 × Int32 × Int32 × Int32 × Int32 × Int32) hf)
        · replace hf := bn_f hc18 hf
          refine s_iload C 60 0 rfl dX5_furthestBite_58 rfl ?_
          refine s_istore (lv1 := [(5, .int (a3 * r16.1)), (8, .int (a3 * r16.1)), (7, .int r13), (0, .ref (ad 0)), (1, .int a1), (2, .int a2), (3, .int a3), (4, .int v11.1), (6, .int v11.2.2.1)]) C 62 5 rfl dX5_furthestBite_60 (Nat.le_of_ble_eq_true rfl) rfl ?_
          refine s_iload C 64 8 rfl dX5_furthestBite_62 rfl ?_
          refine s_istore (lv1 := [(4, .int v11.2.2.1), (5, .int (a3 * r16.1)), (8, .int (a3 * r16.1)), (7, .int r13), (0, .ref (ad 0)), (1, .int a1), (2, .int a2), (3, .int a3), (6, .int v11.2.2.1)]) C 66 4 rfl dX5_furthestBite_64 (Nat.le_of_ble_eq_true rfl) rfl ?_
          replace hf := bn_i hf
          exact s_lv [4, 5, 6, 7, 0, 1, 8] rfl (hj ((v11.2.2.1, a3 * r16.1, r16.2.2.2.2, r16.2.2.2.1, r16.2.1, r16.2.2.1) : Int32 × Int32 × Int32 × Int32 × Int32 × Int32) hf)
      · replace hf := bn_t hc19 hf
        refine s_goto C 66 dX5_furthestBite_37 rfl ?_
        replace hf := bn_i hf
        exact s_lv [1, 2, 3, 4, 5, 6, 7] rfl (hj ((v11.1, v11.2.1, v11.2.2.2.2.2.2, v11.2.2.2.2.2.1, v11.2.2.2.1, v11.2.2.2.2.1) : Int32 × Int32 × Int32 × Int32 × Int32 × Int32) hf)


theorem hd_X5_firstBiteTo : yX5_firstBiteTo.cls = RX5 ∧ yX5_firstBiteTo.cls ≠ "java/lang/invoke/MethodHandle" ∧ yX5_firstBiteTo.cls ≠ "java/lang/invoke/VarHandle" ∧ (parseMethodDescriptor yX5_firstBiteTo.desc).map (fun d => d.parameters.length) = some 4 := by decide +kernel
set_option maxHeartbeats 4000000 in
set_option maxRecDepth 100000 in
theorem c_X5_firstBiteTo (l : Launch) (D : va_G) (cI : ClassId) (adK adV : Nat → Nat) (ad : Nat → Nat) (kc : Nat → Nat) (tolds : Int32) (hasImage : Int32) (n_heirs : Int32) (n_left : Int32) (n_bitten : Int32) (n_kinds : (Nat → Int32)) (n_figures : (Nat → Int32)) (k_heirs : Int32) (k_left : Int32) (k_bitten : Int32) (k_kinds : (Nat → Int32)) (k_figures : (Nat → Int32)) (t_heirs : Int32) (t_left : Int32) (t_bitten : Int32) (t_kinds : (Nat → Int32)) (t_figures : (Nat → Int32)) (r_gone : Int32) (r_heaps : Int32) (r_fewestCells : Int32) (r_deed : Int32) (c_ways : (Nat → Int32)) (c_fewest : (Nat → Int32)) (c_nextWays : (Nat → Int32)) (c_nextFewest : (Nat → Int32)) (x_length : Int32) (x_letters : (Nat → Int32)) (told : (Nat → Int32)) (refusals : (Nat → Int32)) (ends : (Nat → Int32)) (a1 : Int32) (a2 : Int32) (a3 : Int32) (a4 : Int32) (o : Int32 × Int32 × Int32 × Int32 × Int32) (hf : f_X5_firstBiteTo n_kinds n_figures r_gone r_heaps r_fewestCells r_deed a1 a2 a3 a4 = some o) : Ct l D cI adK adV yX5_firstBiteTo (wy yX5_firstBiteTo cX5_firstBiteTo 7 (some .int)) { frames := 4, cells := 0, slots := 0, locals := 93 } 0 0 [.ref (ad 0), .int a1, .int a2, .int a3, .int a4] (wX ad kc cI tolds hasImage n_heirs n_left n_bitten n_kinds n_figures k_heirs k_left k_bitten k_kinds k_figures t_heirs t_left t_bitten t_kinds t_figures r_gone r_heaps r_fewestCells r_deed c_ways c_fewest c_nextWays c_nextFewest x_length x_letters told refusals ends) (fun _ => (wX ad kc cI tolds hasImage n_heirs n_left n_bitten n_kinds n_figures k_heirs k_left k_bitten k_kinds k_figures t_heirs t_left t_bitten t_kinds t_figures o.2.1 o.2.2.1 o.2.2.2.1 o.2.2.2.2 c_ways c_fewest c_nextWays c_nextFewest x_length x_letters told refusals ends)) (some (.int o.1)) := by
  refine Ct.of (cc := cX5_firstBiteTo) (nL := 7) (ret := (some .int)) (own := RX5) (by decide) (Nat.le_of_ble_eq_true rfl) rfl ?_
  intro p e s m args below meth c A C hr hlk hnm
  refine s_lv (lv1 := [(0, .ref (ad 0)), (1, .int a1), (2, .int a2), (3, .int a3), (4, .int a4)]) [0, 1, 2, 3, 4] rfl ?_
  unfold f_X5_firstBiteTo at hf
  refine s_iload C 2 4 rfl dX5_firstBiteTo_0 rfl ?_
  refine s_istore (lv1 := [(5, .int a4), (0, .ref (ad 0)), (1, .int a1), (2, .int a2), (3, .int a3), (4, .int a4)]) C 4 5 rfl dX5_firstBiteTo_2 (Nat.le_of_ble_eq_true rfl) rfl ?_
  refine s_lv (lv1 := [(0, .ref (ad 0)), (1, .int a1), (2, .int a2), (3, .int a3), (5, .int a4)]) [1, 2, 3, 4, 0] rfl ?_
  refine s_loop (α := Int32 × Int32 × Int32 × Int32 × Int32) (fun n v8 => f_X5_firstBiteTo_4 a1 a2 a3 n_kinds n_figures n v8.1 v8.2.1 v8.2.2.1 v8.2.2.2.1 v8.2.2.2.2) 4 (fun v8 => [(0, .ref (ad 0)), (1, .int a1), (2, .int a2), (3, .int a3), (5, .int v8.1)]) (fun v8 => (wX ad kc cI tolds hasImage n_heirs n_left n_bitten n_kinds n_figures k_heirs k_left k_bitten k_kinds k_figures t_heirs t_left t_bitten t_kinds t_figures v8.2.1 v8.2.2.1 v8.2.2.2.1 v8.2.2.2.2 c_ways c_fewest c_nextWays c_nextFewest x_length x_letters told refusals ends)) 1000 (a4, r_gone, r_heaps, r_fewestCells, r_deed) hf (fun v8 hf => by simp only [f_X5_firstBiteTo_4] at hf; exact absurd hf (by simp)) (fun n ih9 v8 hf => ?_)
  replace hf := (f_X5_firstBiteTo_4_s _ _ _ _ _ _ _ _ _ _ _).symm.trans hf
  refine s_iload C 6 4 rfl dX5_firstBiteTo_4 rfl ?_
  refine s_bipush C 8 rfl dX5_firstBiteTo_6 bp_100 ?_
  refine s_icmp_ge C 45 11 rfl dX5_firstBiteTo_8 rfl (fun hc16 => ?_) (fun hc16 => ?_)
  · replace hf := ite_t hc16 hf
    refine s_iconst C 46 rfl dX5_firstBiteTo_45 ic_m1 ?_
    obtain rfl := Option.some.inj hf
    exact s_iret C kc hr hlk rfl rfl dX5_firstBiteTo_46
  · replace hf := ite_f hc16 hf
    refine s_iload C 13 4 rfl dX5_firstBiteTo_11 rfl ?_
    refine s_iload_n C 14 3 rfl dX5_firstBiteTo_13 rfl ?_
    obtain ⟨r10, q11, hf⟩ := bn_s hf
    refine s_callS0 (host := "") (rest := []) C 17 (c_X2_behind l D cI adK adV v8.1 a3 r10 q11) (gS uu657 uu659 uu14 uu660) hd_X2_behind rfl ⟨rfl, rfl⟩ ⟨Nat.le_of_ble_eq_true rfl, Nat.le_of_ble_eq_true rfl⟩ ⟨Nat.le_of_ble_eq_true rfl, Nat.le_of_ble_eq_true rfl⟩ rfl (Nat.le_of_ble_eq_true rfl) rfl dX5_firstBiteTo_14 ?_
    refine s_istore (lv1 := [(6, .int r10), (0, .ref (ad 0)), (1, .int a1), (2, .int a2), (3, .int a3), (5, .int v8.1)]) C 19 6 rfl dX5_firstBiteTo_17 (Nat.le_of_ble_eq_true rfl) rfl ?_
    refine s_iload C 21 0 rfl dX5_firstBiteTo_19 rfl ?_
    refine s_iload_n C 22 4 rfl dX5_firstBiteTo_21 rfl ?_
    refine s_icmp_eq C 39 25 rfl dX5_firstBiteTo_22 rfl (fun hc15 => ?_) (fun hc15 => ?_)
    · replace hf := ite_t hc15 hf
      refine s_iinc (lv1 := [(5, .int (v8.1 + (1 : Int32))), (6, .int r10), (0, .ref (ad 0)), (1, .int a1), (2, .int a2), (3, .int a3)]) C 42 5 5 rfl dX5_firstBiteTo_39 rfl ic_1 (Nat.le_of_ble_eq_true rfl) rfl ?_
      refine s_goto C 4 dX5_firstBiteTo_42 rfl ?_
      exact s_lv [2, 3, 4, 5, 0] rfl (ih9 ((v8.1 + (1 : Int32), v8.2.1, v8.2.2.1, v8.2.2.2.1, v8.2.2.2.2) : Int32 × Int32 × Int32 × Int32 × Int32) hf)
    · replace hf := ite_f hc15 hf
      refine s_aload_n C 26 1 rfl dX5_firstBiteTo_25 rfl ?_
      refine s_iload_n C 27 2 rfl dX5_firstBiteTo_26 rfl ?_
      refine s_iload C 29 0 rfl dX5_firstBiteTo_27 rfl ?_
      obtain ⟨r12, q13, hf⟩ := bn_s hf
      refine s_callW (T := TX5) (N := 11) (ci := 4) (q0 := 0) (rest := []) C 32 (c_X5_shareOf l D cI adK adV ad kc tolds hasImage n_heirs n_left n_bitten n_kinds n_figures k_heirs k_left k_bitten k_kinds k_figures t_heirs t_left t_bitten t_kinds t_figures v8.2.1 v8.2.2.1 v8.2.2.2.1 v8.2.2.2.2 c_ways c_fewest c_nextWays c_nextFewest x_length x_letters told refusals ends a1 r10 r12 q13) (gV uu516 uu518 uu1548 uu1 uu519) hd_X5_shareOf rfl ⟨rfl, rfl⟩ ⟨Nat.le_of_ble_eq_true rfl, Nat.le_of_ble_eq_true rfl⟩ ⟨Nat.le_of_ble_eq_true rfl, Nat.le_of_ble_eq_true rfl⟩ rfl rfl rfl (Nat.le_of_ble_eq_true rfl) rfl dX5_firstBiteTo_29 (fun _ => ?_)
      refine s_iload_n C 33 3 rfl dX5_firstBiteTo_32 rfl ?_
      refine s_icmp_lt C 39 36 rfl dX5_firstBiteTo_33 rfl (fun hc14 => ?_) (fun hc14 => ?_)
      · replace hf := ite_t hc14 hf
        refine s_iinc (lv1 := [(5, .int (v8.1 + (1 : Int32))), (6, .int r10), (0, .ref (ad 0)), (1, .int a1), (2, .int a2), (3, .int a3)]) C 42 5 5 rfl dX5_firstBiteTo_39 rfl ic_1 (Nat.le_of_ble_eq_true rfl) rfl ?_
        refine s_goto C 4 dX5_firstBiteTo_42 rfl ?_
        exact s_lv [2, 3, 4, 5, 0] rfl (ih9 ((v8.1 + (1 : Int32), r12.2.1, r12.2.2.1, r12.2.2.2.1, r12.2.2.2.2) : Int32 × Int32 × Int32 × Int32 × Int32) hf)
      · replace hf := ite_f hc14 hf
        refine s_iload C 38 5 rfl dX5_firstBiteTo_36 rfl ?_
        obtain rfl := Option.some.inj hf
        exact s_iret C kc hr hlk rfl rfl dX5_firstBiteTo_38


theorem hd_X5_firstOfTwoBitesTo : yX5_firstOfTwoBitesTo.cls = RX5 ∧ yX5_firstOfTwoBitesTo.cls ≠ "java/lang/invoke/MethodHandle" ∧ yX5_firstOfTwoBitesTo.cls ≠ "java/lang/invoke/VarHandle" ∧ (parseMethodDescriptor yX5_firstOfTwoBitesTo.desc).map (fun d => d.parameters.length) = some 2 := by decide +kernel
set_option maxHeartbeats 4000000 in
set_option maxRecDepth 100000 in
theorem c_X5_firstOfTwoBitesTo (l : Launch) (D : va_G) (cI : ClassId) (adK adV : Nat → Nat) (ad : Nat → Nat) (kc : Nat → Nat) (tolds : Int32) (hasImage : Int32) (n_heirs : Int32) (n_left : Int32) (n_bitten : Int32) (n_kinds : (Nat → Int32)) (n_figures : (Nat → Int32)) (k_heirs : Int32) (k_left : Int32) (k_bitten : Int32) (k_kinds : (Nat → Int32)) (k_figures : (Nat → Int32)) (t_heirs : Int32) (t_left : Int32) (t_bitten : Int32) (t_kinds : (Nat → Int32)) (t_figures : (Nat → Int32)) (r_gone : Int32) (r_heaps : Int32) (r_fewestCells : Int32) (r_deed : Int32) (c_ways : (Nat → Int32)) (c_fewest : (Nat → Int32)) (c_nextWays : (Nat → Int32)) (c_nextFewest : (Nat → Int32)) (x_length : Int32) (x_letters : (Nat → Int32)) (told : (Nat → Int32)) (refusals : (Nat → Int32)) (ends : (Nat → Int32)) (a1 : Int32) (a2 : Int32) (o : Int32 × Int32 × Int32 × Int32 × Int32) (hf : f_X5_firstOfTwoBitesTo n_left n_kinds n_figures r_gone r_heaps r_fewestCells r_deed a1 a2 = some o) : Ct l D cI adK adV yX5_firstOfTwoBitesTo (wy yX5_firstOfTwoBitesTo cX5_firstOfTwoBitesTo 5 (some .int)) { frames := 5, cells := 0, slots := 0, locals := 119 } 0 0 [.ref (ad 0), .int a1, .int a2] (wX ad kc cI tolds hasImage n_heirs n_left n_bitten n_kinds n_figures k_heirs k_left k_bitten k_kinds k_figures t_heirs t_left t_bitten t_kinds t_figures r_gone r_heaps r_fewestCells r_deed c_ways c_fewest c_nextWays c_nextFewest x_length x_letters told refusals ends) (fun _ => (wX ad kc cI tolds hasImage n_heirs n_left n_bitten n_kinds n_figures k_heirs k_left k_bitten k_kinds k_figures t_heirs t_left t_bitten t_kinds t_figures o.2.1 o.2.2.1 o.2.2.2.1 o.2.2.2.2 c_ways c_fewest c_nextWays c_nextFewest x_length x_letters told refusals ends)) (some (.int o.1)) := by
  refine Ct.of (cc := cX5_firstOfTwoBitesTo) (nL := 5) (ret := (some .int)) (own := RX5) (by decide) (Nat.le_of_ble_eq_true rfl) rfl ?_
  intro p e s m args below meth c A C hr hlk hnm
  refine s_lv (lv1 := [(0, .ref (ad 0)), (1, .int a1), (2, .int a2)]) [0, 1, 2] rfl ?_
  unfold f_X5_firstOfTwoBitesTo at hf
  refine s_iconst C 1 rfl dX5_firstOfTwoBitesTo_0 ic_0 ?_
  refine s_istore_n (lv1 := [(3, .int (0 : Int32)), (0, .ref (ad 0)), (1, .int a1), (2, .int a2)]) C 2 3 rfl dX5_firstOfTwoBitesTo_1 rfl (Nat.le_of_ble_eq_true rfl) rfl ?_
  refine s_lv (lv1 := [(0, .ref (ad 0)), (1, .int a1), (2, .int a2), (3, .int (0 : Int32))]) [1, 2, 3, 0] rfl ?_
  refine s_loop (α := Int32 × Int32 × Int32 × Int32 × Int32) (fun n v8 => f_X5_firstOfTwoBitesTo_2 a1 a2 n_left n_kinds n_figures n v8.1 v8.2.1 v8.2.2.1 v8.2.2.2.1 v8.2.2.2.2) 2 (fun v8 => [(0, .ref (ad 0)), (1, .int a1), (2, .int a2), (3, .int v8.1)]) (fun v8 => (wX ad kc cI tolds hasImage n_heirs n_left n_bitten n_kinds n_figures k_heirs k_left k_bitten k_kinds k_figures t_heirs t_left t_bitten t_kinds t_figures v8.2.1 v8.2.2.1 v8.2.2.2.1 v8.2.2.2.2 c_ways c_fewest c_nextWays c_nextFewest x_length x_letters told refusals ends)) 1000 ((0 : Int32), r_gone, r_heaps, r_fewestCells, r_deed) hf (fun v8 hf => by simp only [f_X5_firstOfTwoBitesTo_2] at hf; exact absurd hf (by simp)) (fun n ih9 v8 hf => ?_)
  replace hf := (f_X5_firstOfTwoBitesTo_2_s _ _ _ _ _ _ _ _ _ _ _).symm.trans hf
  refine s_iload_n C 3 3 rfl dX5_firstOfTwoBitesTo_2 rfl ?_
  refine s_bipush C 5 rfl dX5_firstOfTwoBitesTo_3 bp_100 ?_
  refine s_icmp_ge C 59 8 rfl dX5_firstOfTwoBitesTo_5 rfl (fun hc16 => ?_) (fun hc16 => ?_)
  · replace hf := ite_t hc16 hf
    refine s_iconst C 60 rfl dX5_firstOfTwoBitesTo_59 ic_m1 ?_
    obtain rfl := Option.some.inj hf
    exact s_iret C kc hr hlk rfl rfl dX5_firstOfTwoBitesTo_60
  · replace hf := ite_f hc16 hf
    refine s_iload_n C 9 3 rfl dX5_firstOfTwoBitesTo_8 rfl ?_
    refine s_aload_n C 10 0 rfl dX5_firstOfTwoBitesTo_9 rfl ?_
    refine s_get (C1 := RX5) (T := TX5) (N := 11) (ci := 4) C 13 0 0 uX5 rfl rfl (Nat.le_of_ble_eq_true rfl) uu130 rfl rfl rfl dX5_firstOfTwoBitesTo_10 ?_
    refine s_get (C1 := RX0) (T := TX0) (N := 5) (ci := 0) C 16 1 3 uX0 rfl rfl (Nat.le_of_ble_eq_true rfl) uu53 rfl rfl rfl dX5_firstOfTwoBitesTo_13 ?_
    obtain ⟨r10, q11, hf⟩ := bn_s hf
    refine s_callS0 (host := "") (rest := []) C 19 (c_X2_behind l D cI adK adV v8.1 n_left r10 q11) (gS uu657 uu659 uu14 uu660) hd_X2_behind rfl ⟨rfl, rfl⟩ ⟨Nat.le_of_ble_eq_true rfl, Nat.le_of_ble_eq_true rfl⟩ ⟨Nat.le_of_ble_eq_true rfl, Nat.le_of_ble_eq_true rfl⟩ rfl (Nat.le_of_ble_eq_true rfl) rfl dX5_firstOfTwoBitesTo_16 ?_
    refine s_istore (lv1 := [(4, .int r10), (0, .ref (ad 0)), (1, .int a1), (2, .int a2), (3, .int v8.1)]) C 21 4 rfl dX5_firstOfTwoBitesTo_19 (Nat.le_of_ble_eq_true rfl) rfl ?_
    refine s_iload C 23 0 rfl dX5_firstOfTwoBitesTo_21 rfl ?_
    refine s_aload_n C 24 1 rfl dX5_firstOfTwoBitesTo_23 rfl ?_
    refine s_get (C1 := RX5) (T := TX5) (N := 11) (ci := 4) C 27 0 0 uX5 rfl rfl (Nat.le_of_ble_eq_true rfl) uu130 rfl rfl rfl dX5_firstOfTwoBitesTo_24 ?_
    refine s_get (C1 := RX0) (T := TX0) (N := 5) (ci := 0) C 30 1 3 uX0 rfl rfl (Nat.le_of_ble_eq_true rfl) uu53 rfl rfl rfl dX5_firstOfTwoBitesTo_27 ?_
    refine s_icmp_ne C 36 33 rfl dX5_firstOfTwoBitesTo_30 rfl (fun hc15 => ?_) (fun hc15 => ?_)
    · replace hf := ite_f hc15 hf
      refine s_aload_n C 37 1 rfl dX5_firstOfTwoBitesTo_36 rfl ?_
      refine s_iload_n C 38 2 rfl dX5_firstOfTwoBitesTo_37 rfl ?_
      refine s_iload_n C 39 3 rfl dX5_firstOfTwoBitesTo_38 rfl ?_
      refine s_iload C 41 0 rfl dX5_firstOfTwoBitesTo_39 rfl ?_
      refine s_iload_n C 42 4 rfl dX5_firstOfTwoBitesTo_41 rfl ?_
      refine s_iconst C 43 rfl dX5_firstOfTwoBitesTo_42 ic_1 ?_
      refine s_iadd C 44 rfl dX5_firstOfTwoBitesTo_43 ?_
      obtain ⟨r12, q13, hf⟩ := bn_s hf
      refine s_callW (T := TX5) (N := 11) (ci := 4) (q0 := 0) (rest := []) C 47 (c_X5_firstBiteTo l D cI adK adV ad kc tolds hasImage n_heirs n_left n_bitten n_kinds n_figures k_heirs k_left k_bitten k_kinds k_figures t_heirs t_left t_bitten t_kinds t_figures v8.2.1 v8.2.2.1 v8.2.2.2.1 v8.2.2.2.2 c_ways c_fewest c_nextWays c_nextFewest x_length x_letters told refusals ends a1 a2 r10 (v8.1 + (1 : Int32)) r12 q13) (gV uu821 uu823 uu1562 uu1 uu824) hd_X5_firstBiteTo rfl ⟨rfl, rfl⟩ ⟨Nat.le_of_ble_eq_true rfl, Nat.le_of_ble_eq_true rfl⟩ ⟨Nat.le_of_ble_eq_true rfl, Nat.le_of_ble_eq_true rfl⟩ rfl rfl rfl (Nat.le_of_ble_eq_true rfl) rfl dX5_firstOfTwoBitesTo_44 (fun _ => ?_)
      refine s_iconst C 48 rfl dX5_firstOfTwoBitesTo_47 ic_m1 ?_
      refine s_icmp_eq C 53 51 rfl dX5_firstOfTwoBitesTo_48 rfl (fun hc14 => ?_) (fun hc14 => ?_)
      · replace hf := ite_t hc14 hf
        refine s_iinc (lv1 := [(3, .int (v8.1 + (1 : Int32))), (4, .int r10), (0, .ref (ad 0)), (1, .int a1), (2, .int a2)]) C 56 3 4 rfl dX5_firstOfTwoBitesTo_53 rfl ic_1 (Nat.le_of_ble_eq_true rfl) rfl ?_
        refine s_goto C 2 dX5_firstOfTwoBitesTo_56 rfl ?_
        exact s_lv [2, 3, 4, 0] rfl (ih9 ((v8.1 + (1 : Int32), r12.2.1, r12.2.2.1, r12.2.2.2.1, r12.2.2.2.2) : Int32 × Int32 × Int32 × Int32 × Int32) hf)
      · replace hf := ite_f hc14 hf
        refine s_iload_n C 52 4 rfl dX5_firstOfTwoBitesTo_51 rfl ?_
        obtain rfl := Option.some.inj hf
        exact s_iret C kc hr hlk rfl rfl dX5_firstOfTwoBitesTo_52
    · replace hf := ite_t hc15 hf
      refine s_goto C 53 dX5_firstOfTwoBitesTo_33 rfl ?_
      refine s_iinc (lv1 := [(3, .int (v8.1 + (1 : Int32))), (4, .int r10), (0, .ref (ad 0)), (1, .int a1), (2, .int a2)]) C 56 3 4 rfl dX5_firstOfTwoBitesTo_53 rfl ic_1 (Nat.le_of_ble_eq_true rfl) rfl ?_
      refine s_goto C 2 dX5_firstOfTwoBitesTo_56 rfl ?_
      exact s_lv [2, 3, 4, 0] rfl (ih9 ((v8.1 + (1 : Int32), v8.2.1, v8.2.2.1, v8.2.2.2.1, v8.2.2.2.2) : Int32 × Int32 × Int32 × Int32 × Int32) hf)


theorem hd_X5_chosen : yX5_chosen.cls = RX5 ∧ yX5_chosen.cls ≠ "java/lang/invoke/MethodHandle" ∧ yX5_chosen.cls ≠ "java/lang/invoke/VarHandle" ∧ (parseMethodDescriptor yX5_chosen.desc).map (fun d => d.parameters.length) = some 3 := by decide +kernel
set_option maxHeartbeats 4000000 in
set_option maxRecDepth 100000 in
theorem c_X5_chosen (l : Launch) (D : va_G) (cI : ClassId) (adK adV : Nat → Nat) (ad : Nat → Nat) (kc : Nat → Nat) (tolds : Int32) (hasImage : Int32) (n_heirs : Int32) (n_left : Int32) (n_bitten : Int32) (n_kinds : (Nat → Int32)) (n_figures : (Nat → Int32)) (k_heirs : Int32) (k_left : Int32) (k_bitten : Int32) (k_kinds : (Nat → Int32)) (k_figures : (Nat → Int32)) (t_heirs : Int32) (t_left : Int32) (t_bitten : Int32) (t_kinds : (Nat → Int32)) (t_figures : (Nat → Int32)) (r_gone : Int32) (r_heaps : Int32) (r_fewestCells : Int32) (r_deed : Int32) (c_ways : (Nat → Int32)) (c_fewest : (Nat → Int32)) (c_nextWays : (Nat → Int32)) (c_nextFewest : (Nat → Int32)) (x_length : Int32) (x_letters : (Nat → Int32)) (told : (Nat → Int32)) (refusals : (Nat → Int32)) (ends : (Nat → Int32)) (a1 : Int32) (a2 : Int32) (a3 : Int32) (o : Int32 × Int32 × Int32 × Int32 × Int32) (hf : f_X5_chosen n_kinds n_figures r_gone r_heaps r_fewestCells r_deed a1 a2 a3 = some o) : Ct l D cI adK adV yX5_chosen (wy yX5_chosen cX5_chosen 4 (some .int)) { frames := 5, cells := 0, slots := 0, locals := 121 } 0 0 [.ref (ad 0), .int a1, .int a2, .int a3] (wX ad kc cI tolds hasImage n_heirs n_left n_bitten n_kinds n_figures k_heirs k_left k_bitten k_kinds k_figures t_heirs t_left t_bitten t_kinds t_figures r_gone r_heaps r_fewestCells r_deed c_ways c_fewest c_nextWays c_nextFewest x_length x_letters told refusals ends) (fun _ => (wX ad kc cI tolds hasImage n_heirs n_left n_bitten n_kinds n_figures k_heirs k_left k_bitten k_kinds k_figures t_heirs t_left t_bitten t_kinds t_figures o.2.1 o.2.2.1 o.2.2.2.1 o.2.2.2.2 c_ways c_fewest c_nextWays c_nextFewest x_length x_letters told refusals ends)) (some (.int o.1)) := by
  refine Ct.of (cc := cX5_chosen) (nL := 4) (ret := (some .int)) (own := RX5) (by decide) (Nat.le_of_ble_eq_true rfl) rfl ?_
  intro p e s m args below meth c A C hr hlk hnm
  refine s_lv (lv1 := [(0, .ref (ad 0)), (1, .int a1), (2, .int a2), (3, .int a3)]) [0, 1, 2, 3] rfl ?_
  unfold f_X5_chosen at hf
  refine s_iload_n C 1 2 rfl dX5_chosen_0 rfl ?_
  refine s_if_ne C 16 4 rfl dX5_chosen_1 rfl (fun hc5 => ?_) (fun hc5 => ?_)
  · replace hf := ite_f hc5 hf
    refine s_iload_n C 17 3 rfl dX5_chosen_16 rfl ?_
    refine s_iload_n C 18 3 rfl dX5_chosen_17 rfl ?_
    refine s_iconst C 19 rfl dX5_chosen_18 ic_1 ?_
    refine s_isub C 20 rfl dX5_chosen_19 ?_
    refine s_iand C 21 rfl dX5_chosen_20 ?_
    obtain rfl := Option.some.inj hf
    exact s_iret C kc hr hlk rfl rfl dX5_chosen_21
  · replace hf := ite_t hc5 hf
    refine s_aload_n C 5 0 rfl dX5_chosen_4 rfl ?_
    refine s_iload_n C 6 1 rfl dX5_chosen_5 rfl ?_
    refine s_iload_n C 7 3 rfl dX5_chosen_6 rfl ?_
    refine s_iconst C 8 rfl dX5_chosen_7 ic_1 ?_
    obtain ⟨r1, q2, hf⟩ := bn_s hf
    refine s_callW (T := TX5) (N := 11) (ci := 4) (q0 := 0) (rest := []) C 11 (c_X5_furthestBite l D cI adK adV ad kc tolds hasImage n_heirs n_left n_bitten n_kinds n_figures k_heirs k_left k_bitten k_kinds k_figures t_heirs t_left t_bitten t_kinds t_figures r_gone r_heaps r_fewestCells r_deed c_ways c_fewest c_nextWays c_nextFewest x_length x_letters told refusals ends a1 a3 (1 : Int32) r1 q2) (gV uu794 uu796 uu1560 uu1 uu797) hd_X5_furthestBite rfl ⟨rfl, rfl⟩ ⟨Nat.le_of_ble_eq_true rfl, Nat.le_of_ble_eq_true rfl⟩ ⟨Nat.le_of_ble_eq_true rfl, Nat.le_of_ble_eq_true rfl⟩ rfl rfl rfl (Nat.le_of_ble_eq_true rfl) rfl dX5_chosen_8 (fun _ => ?_)
    refine s_iload_n C 12 3 rfl dX5_chosen_11 rfl ?_
    obtain ⟨r3, q4, hf⟩ := bn_s hf
    refine s_callS0 (host := "") (rest := []) C 15 (c_X2_behind l D cI adK adV r1.1 a3 r3 q4) (gS uu657 uu659 uu14 uu660) hd_X2_behind rfl ⟨rfl, rfl⟩ ⟨Nat.le_of_ble_eq_true rfl, Nat.le_of_ble_eq_true rfl⟩ ⟨Nat.le_of_ble_eq_true rfl, Nat.le_of_ble_eq_true rfl⟩ rfl (Nat.le_of_ble_eq_true rfl) rfl dX5_chosen_12 ?_
    obtain rfl := Option.some.inj hf
    exact s_iret C kc hr hlk rfl rfl dX5_chosen_15


theorem hd_X5_firstOfTwoThatSettle : yX5_firstOfTwoThatSettle.cls = RX5 ∧ yX5_firstOfTwoThatSettle.cls ≠ "java/lang/invoke/MethodHandle" ∧ yX5_firstOfTwoThatSettle.cls ≠ "java/lang/invoke/VarHandle" ∧ (parseMethodDescriptor yX5_firstOfTwoThatSettle.desc).map (fun d => d.parameters.length) = some 0 := by decide +kernel
set_option maxHeartbeats 4000000 in
set_option maxRecDepth 100000 in
theorem c_X5_firstOfTwoThatSettle (l : Launch) (D : va_G) (cI : ClassId) (adK adV : Nat → Nat) (ad : Nat → Nat) (kc : Nat → Nat) (tolds : Int32) (hasImage : Int32) (n_heirs : Int32) (n_left : Int32) (n_bitten : Int32) (n_kinds : (Nat → Int32)) (n_figures : (Nat → Int32)) (k_heirs : Int32) (k_left : Int32) (k_bitten : Int32) (k_kinds : (Nat → Int32)) (k_figures : (Nat → Int32)) (t_heirs : Int32) (t_left : Int32) (t_bitten : Int32) (t_kinds : (Nat → Int32)) (t_figures : (Nat → Int32)) (r_gone : Int32) (r_heaps : Int32) (r_fewestCells : Int32) (r_deed : Int32) (c_ways : (Nat → Int32)) (c_fewest : (Nat → Int32)) (c_nextWays : (Nat → Int32)) (c_nextFewest : (Nat → Int32)) (x_length : Int32) (x_letters : (Nat → Int32)) (told : (Nat → Int32)) (refusals : (Nat → Int32)) (ends : (Nat → Int32))  (o : Int32 × Int32 × Int32 × Int32 × Int32) (hf : f_X5_firstOfTwoThatSettle n_left r_gone r_heaps r_fewestCells r_deed = some o) : Ct l D cI adK adV yX5_firstOfTwoThatSettle (wy yX5_firstOfTwoThatSettle cX5_firstOfTwoThatSettle 2 (some .int)) { frames := 5, cells := 0, slots := 0, locals := 116 } 0 0 [.ref (ad 0)] (wX ad kc cI tolds hasImage n_heirs n_left n_bitten n_kinds n_figures k_heirs k_left k_bitten k_kinds k_figures t_heirs t_left t_bitten t_kinds t_figures r_gone r_heaps r_fewestCells r_deed c_ways c_fewest c_nextWays c_nextFewest x_length x_letters told refusals ends) (fun _ => (wX ad kc cI tolds hasImage n_heirs n_left n_bitten n_kinds n_figures k_heirs k_left k_bitten k_kinds k_figures t_heirs t_left t_bitten t_kinds t_figures o.2.1 o.2.2.1 o.2.2.2.1 o.2.2.2.2 c_ways c_fewest c_nextWays c_nextFewest x_length x_letters told refusals ends)) (some (.int o.1)) := by
  refine Ct.of (cc := cX5_firstOfTwoThatSettle) (nL := 2) (ret := (some .int)) (own := RX5) (by decide) (Nat.le_of_ble_eq_true rfl) rfl ?_
  intro p e s m args below meth c A C hr hlk hnm
  refine s_lv (lv1 := [(0, .ref (ad 0))]) [0] rfl ?_
  unfold f_X5_firstOfTwoThatSettle at hf
  refine s_iconst C 1 rfl dX5_firstOfTwoThatSettle_0 ic_0 ?_
  refine s_istore_n (lv1 := [(1, .int (0 : Int32)), (0, .ref (ad 0))]) C 2 1 rfl dX5_firstOfTwoThatSettle_1 rfl (Nat.le_of_ble_eq_true rfl) rfl ?_
  refine s_lv (lv1 := [(0, .ref (ad 0)), (1, .int (0 : Int32))]) [1, 0] rfl ?_
  refine s_loop (α := Int32 × Int32 × Int32 × Int32 × Int32) (fun n v8 => f_X5_firstOfTwoThatSettle_2 n_left n v8.1 v8.2.1 v8.2.2.1 v8.2.2.2.1 v8.2.2.2.2) 2 (fun v8 => [(0, .ref (ad 0)), (1, .int v8.1)]) (fun v8 => (wX ad kc cI tolds hasImage n_heirs n_left n_bitten n_kinds n_figures k_heirs k_left k_bitten k_kinds k_figures t_heirs t_left t_bitten t_kinds t_figures v8.2.1 v8.2.2.1 v8.2.2.2.1 v8.2.2.2.2 c_ways c_fewest c_nextWays c_nextFewest x_length x_letters told refusals ends)) 1000 ((0 : Int32), r_gone, r_heaps, r_fewestCells, r_deed) hf (fun v8 hf => by simp only [f_X5_firstOfTwoThatSettle_2] at hf; exact absurd hf (by simp)) (fun n ih9 v8 hf => ?_)
  replace hf := (f_X5_firstOfTwoThatSettle_2_s _ _ _ _ _ _ _).symm.trans hf
  refine s_iload_n C 3 1 rfl dX5_firstOfTwoThatSettle_2 rfl ?_
  refine s_bipush C 5 rfl dX5_firstOfTwoThatSettle_3 bp_25 ?_
  refine s_icmp_ge C 52 8 rfl dX5_firstOfTwoThatSettle_5 rfl (fun hc16 => ?_) (fun hc16 => ?_)
  · replace hf := ite_t hc16 hf
    refine s_bipush C 54 rfl dX5_firstOfTwoThatSettle_52 bp_m9 ?_
    obtain rfl := Option.some.inj hf
    exact s_iret C kc hr hlk rfl rfl dX5_firstOfTwoThatSettle_54
  · replace hf := ite_f hc16 hf
    refine s_aload_n C 9 0 rfl dX5_firstOfTwoThatSettle_8 rfl ?_
    refine s_iload_n C 10 1 rfl dX5_firstOfTwoThatSettle_9 rfl ?_
    obtain ⟨r10, q11, hf⟩ := bn_s hf
    refine s_callW (T := TX5) (N := 11) (ci := 4) (q0 := 0) (rest := []) C 13 (c_X5_isLeft l D cI adK adV ad kc tolds hasImage n_heirs n_left n_bitten n_kinds n_figures k_heirs k_left k_bitten k_kinds k_figures t_heirs t_left t_bitten t_kinds t_figures v8.2.1 v8.2.2.1 v8.2.2.2.1 v8.2.2.2.2 c_ways c_fewest c_nextWays c_nextFewest x_length x_letters told refusals ends v8.1 r10 q11) (gV uu566 uu568 uu1550 uu1 uu569) hd_X5_isLeft rfl ⟨rfl, rfl⟩ ⟨Nat.le_of_ble_eq_true rfl, Nat.le_of_ble_eq_true rfl⟩ ⟨Nat.le_of_ble_eq_true rfl, Nat.le_of_ble_eq_true rfl⟩ rfl rfl rfl (Nat.le_of_ble_eq_true rfl) rfl dX5_firstOfTwoThatSettle_10 (fun _ => ?_)
    refine s_if_ne C 19 16 rfl dX5_firstOfTwoThatSettle_13 rfl (fun hc15 => ?_) (fun hc15 => ?_)
    · replace hf := ite_f hc15 hf
      refine s_aload_n C 20 0 rfl dX5_firstOfTwoThatSettle_19 rfl ?_
      refine s_aload_n C 21 0 rfl dX5_firstOfTwoThatSettle_20 rfl ?_
      refine s_get (C1 := RX5) (T := TX5) (N := 11) (ci := 4) C 24 0 0 uX5 rfl rfl (Nat.le_of_ble_eq_true rfl) uu130 rfl rfl rfl dX5_firstOfTwoThatSettle_21 ?_
      refine s_get (C1 := RX0) (T := TX0) (N := 5) (ci := 0) C 27 1 3 uX0 rfl rfl (Nat.le_of_ble_eq_true rfl) uu53 rfl rfl rfl dX5_firstOfTwoThatSettle_24 ?_
      refine s_iconst C 28 rfl dX5_firstOfTwoThatSettle_27 ic_1 ?_
      refine s_iload_n C 29 1 rfl dX5_firstOfTwoThatSettle_28 rfl ?_
      refine s_ishl C 30 rfl dX5_firstOfTwoThatSettle_29 ?_
      refine s_iconst C 31 rfl dX5_firstOfTwoThatSettle_30 ic_m1 ?_
      refine s_ixor C 32 rfl dX5_firstOfTwoThatSettle_31 ?_
      refine s_iand C 33 rfl dX5_firstOfTwoThatSettle_32 ?_
      refine s_iload_n C 34 1 rfl dX5_firstOfTwoThatSettle_33 rfl ?_
      refine s_iconst C 35 rfl dX5_firstOfTwoThatSettle_34 ic_1 ?_
      refine s_iadd C 36 rfl dX5_firstOfTwoThatSettle_35 ?_
      obtain ⟨r12, q13, hf⟩ := bn_s hf
      refine s_callW (T := TX5) (N := 11) (ci := 4) (q0 := 0) (rest := []) C 39 (c_X5_firstCellThatSettles l D cI adK adV ad kc tolds hasImage n_heirs n_left n_bitten n_kinds n_figures k_heirs k_left k_bitten k_kinds k_figures t_heirs t_left t_bitten t_kinds t_figures v8.2.1 v8.2.2.1 v8.2.2.2.1 v8.2.2.2.2 c_ways c_fewest c_nextWays c_nextFewest x_length x_letters told refusals ends (n_left &&& ((jshl (1 : Int32) v8.1) ^^^ (-1 : Int32))) (v8.1 + (1 : Int32)) r12 q13) (gV uu735 uu737 uu1558 uu1 uu738) hd_X5_firstCellThatSettles rfl ⟨rfl, rfl⟩ ⟨Nat.le_of_ble_eq_true rfl, Nat.le_of_ble_eq_true rfl⟩ ⟨Nat.le_of_ble_eq_true rfl, Nat.le_of_ble_eq_true rfl⟩ rfl rfl rfl (Nat.le_of_ble_eq_true rfl) rfl dX5_firstOfTwoThatSettle_36 (fun _ => ?_)
      refine s_bipush C 41 rfl dX5_firstOfTwoThatSettle_39 bp_m9 ?_
      refine s_icmp_eq C 46 44 rfl dX5_firstOfTwoThatSettle_41 rfl (fun hc14 => ?_) (fun hc14 => ?_)
      · replace hf := ite_t hc14 hf
        refine s_iinc (lv1 := [(1, .int (v8.1 + (1 : Int32))), (0, .ref (ad 0))]) C 49 1 1 rfl dX5_firstOfTwoThatSettle_46 rfl ic_1 (Nat.le_of_ble_eq_true rfl) rfl ?_
        refine s_goto C 2 dX5_firstOfTwoThatSettle_49 rfl ?_
        exact s_lv [1, 0] rfl (ih9 ((v8.1 + (1 : Int32), r12.2.1, r12.2.2.1, r12.2.2.2.1, r12.2.2.2.2) : Int32 × Int32 × Int32 × Int32 × Int32) hf)
      · replace hf := ite_f hc14 hf
        refine s_iload_n C 45 1 rfl dX5_firstOfTwoThatSettle_44 rfl ?_
        obtain rfl := Option.some.inj hf
        exact s_iret C kc hr hlk rfl rfl dX5_firstOfTwoThatSettle_45
    · replace hf := ite_t hc15 hf
      refine s_goto C 46 dX5_firstOfTwoThatSettle_16 rfl ?_
      refine s_iinc (lv1 := [(1, .int (v8.1 + (1 : Int32))), (0, .ref (ad 0))]) C 49 1 1 rfl dX5_firstOfTwoThatSettle_46 rfl ic_1 (Nat.le_of_ble_eq_true rfl) rfl ?_
      refine s_goto C 2 dX5_firstOfTwoThatSettle_49 rfl ?_
      exact s_lv [1, 0] rfl (ih9 ((v8.1 + (1 : Int32), v8.2.1, v8.2.2.1, v8.2.2.2.1, v8.2.2.2.2) : Int32 × Int32 × Int32 × Int32 × Int32) hf)


theorem hd_X5_singlesTo : yX5_singlesTo.cls = RX5 ∧ yX5_singlesTo.cls ≠ "java/lang/invoke/MethodHandle" ∧ yX5_singlesTo.cls ≠ "java/lang/invoke/VarHandle" ∧ (parseMethodDescriptor yX5_singlesTo.desc).map (fun d => d.parameters.length) = some 4 := by decide +kernel
set_option maxHeartbeats 4000000 in
set_option maxRecDepth 100000 in
theorem c_X5_singlesTo (l : Launch) (D : va_G) (cI : ClassId) (adK adV : Nat → Nat) (ad : Nat → Nat) (kc : Nat → Nat) (tolds : Int32) (hasImage : Int32) (n_heirs : Int32) (n_left : Int32) (n_bitten : Int32) (n_kinds : (Nat → Int32)) (n_figures : (Nat → Int32)) (k_heirs : Int32) (k_left : Int32) (k_bitten : Int32) (k_kinds : (Nat → Int32)) (k_figures : (Nat → Int32)) (t_heirs : Int32) (t_left : Int32) (t_bitten : Int32) (t_kinds : (Nat → Int32)) (t_figures : (Nat → Int32)) (r_gone : Int32) (r_heaps : Int32) (r_fewestCells : Int32) (r_deed : Int32) (c_ways : (Nat → Int32)) (c_fewest : (Nat → Int32)) (c_nextWays : (Nat → Int32)) (c_nextFewest : (Nat → Int32)) (x_length : Int32) (x_letters : (Nat → Int32)) (told : (Nat → Int32)) (refusals : (Nat → Int32)) (ends : (Nat → Int32)) (a1 : Int32) (a2 : Int32) (a3 : Int32) (a4 : Int32) (o : Int32 × Int32 × Int32 × Int32 × Int32) (hf : f_X5_singlesTo n_kinds n_figures r_gone r_heaps r_fewestCells r_deed a1 a2 a3 a4 = some o) : Ct l D cI adK adV yX5_singlesTo (wy yX5_singlesTo cX5_singlesTo 8 (some .int)) { frames := 4, cells := 0, slots := 0, locals := 93 } 0 0 [.ref (ad 0), .int a1, .int a2, .int a3, .int a4] (wX ad kc cI tolds hasImage n_heirs n_left n_bitten n_kinds n_figures k_heirs k_left k_bitten k_kinds k_figures t_heirs t_left t_bitten t_kinds t_figures r_gone r_heaps r_fewestCells r_deed c_ways c_fewest c_nextWays c_nextFewest x_length x_letters told refusals ends) (fun _ => (wX ad kc cI tolds hasImage n_heirs n_left n_bitten n_kinds n_figures k_heirs k_left k_bitten k_kinds k_figures t_heirs t_left t_bitten t_kinds t_figures o.2.1 o.2.2.1 o.2.2.2.1 o.2.2.2.2 c_ways c_fewest c_nextWays c_nextFewest x_length x_letters told refusals ends)) (some (.int o.1)) := by
  refine Ct.of (cc := cX5_singlesTo) (nL := 8) (ret := (some .int)) (own := RX5) (by decide) (Nat.le_of_ble_eq_true rfl) rfl ?_
  intro p e s m args below meth c A C hr hlk hnm
  refine s_lv (lv1 := [(0, .ref (ad 0)), (1, .int a1), (2, .int a2), (3, .int a3), (4, .int a4)]) [0, 1, 2, 3, 4] rfl ?_
  unfold f_X5_singlesTo at hf
  refine s_iconst C 1 rfl dX5_singlesTo_0 ic_0 ?_
  refine s_istore (lv1 := [(5, .int (0 : Int32)), (0, .ref (ad 0)), (1, .int a1), (2, .int a2), (3, .int a3), (4, .int a4)]) C 3 5 rfl dX5_singlesTo_1 (Nat.le_of_ble_eq_true rfl) rfl ?_
  refine s_iload C 5 5 rfl dX5_singlesTo_3 rfl ?_
  refine s_istore (lv1 := [(6, .int a4), (5, .int (0 : Int32)), (0, .ref (ad 0)), (1, .int a1), (2, .int a2), (3, .int a3), (4, .int a4)]) C 7 6 rfl dX5_singlesTo_5 (Nat.le_of_ble_eq_true rfl) rfl ?_
  refine s_lv (lv1 := [(0, .ref (ad 0)), (1, .int a1), (2, .int a2), (3, .int a3), (5, .int (0 : Int32)), (6, .int a4)]) [2, 3, 4, 5, 1, 0] rfl ?_
  refine s_loop (α := Int32 × Int32 × Int32 × Int32 × Int32 × Int32) (fun n v7 => f_X5_singlesTo_7 a1 a2 a3 n_kinds n_figures n v7.1 v7.2.1 v7.2.2.1 v7.2.2.2.1 v7.2.2.2.2.1 v7.2.2.2.2.2) 7 (fun v7 => [(0, .ref (ad 0)), (1, .int a1), (2, .int a2), (3, .int a3), (5, .int v7.1), (6, .int v7.2.1)]) (fun v7 => (wX ad kc cI tolds hasImage n_heirs n_left n_bitten n_kinds n_figures k_heirs k_left k_bitten k_kinds k_figures t_heirs t_left t_bitten t_kinds t_figures v7.2.2.1 v7.2.2.2.1 v7.2.2.2.2.1 v7.2.2.2.2.2 c_ways c_fewest c_nextWays c_nextFewest x_length x_letters told refusals ends)) 1000 ((0 : Int32), a4, r_gone, r_heaps, r_fewestCells, r_deed) hf (fun v7 hf => by simp only [f_X5_singlesTo_7] at hf; exact absurd hf (by simp)) (fun n ih8 v7 hf => ?_)
  replace hf := (f_X5_singlesTo_7_s _ _ _ _ _ _ _ _ _ _ _ _).symm.trans hf
  refine s_iload C 9 5 rfl dX5_singlesTo_7 rfl ?_
  refine s_bipush C 11 rfl dX5_singlesTo_9 bp_25 ?_
  refine s_icmp_ge C 51 14 rfl dX5_singlesTo_11 rfl (fun hc14 => ?_) (fun hc14 => ?_)
  · replace hf := ite_t hc14 hf
    refine s_iload C 53 4 rfl dX5_singlesTo_51 rfl ?_
    obtain rfl := Option.some.inj hf
    exact s_iret C kc hr hlk rfl rfl dX5_singlesTo_53
  · replace hf := ite_f hc14 hf
    refine s_iconst C 15 rfl dX5_singlesTo_14 ic_1 ?_
    refine s_iload C 17 5 rfl dX5_singlesTo_15 rfl ?_
    refine s_ishl C 18 rfl dX5_singlesTo_17 ?_
    refine s_istore (lv1 := [(7, .int (jshl (1 : Int32) v7.2.1)), (0, .ref (ad 0)), (1, .int a1), (2, .int a2), (3, .int a3), (5, .int v7.1), (6, .int v7.2.1)]) C 20 7 rfl dX5_singlesTo_18 (Nat.le_of_ble_eq_true rfl) rfl ?_
    refine s_iload_n C 21 4 rfl dX5_singlesTo_20 rfl ?_
    refine s_iload C 23 0 rfl dX5_singlesTo_21 rfl ?_
    refine s_iand C 24 rfl dX5_singlesTo_23 ?_
    refine s_bn (α := Int32 × Int32 × Int32 × Int32 × Int32) 45 (fun j9 => [(0, .ref (ad 0)), (1, .int a1), (2, .int a2), (3, .int a3), (5, .int j9.1), (6, .int v7.2.1)]) (fun j9 => []) (fun j9 => (wX ad kc cI tolds hasImage n_heirs n_left n_bitten n_kinds n_figures k_heirs k_left k_bitten k_kinds k_figures t_heirs t_left t_bitten t_kinds t_figures j9.2.2.2.1 j9.2.2.2.2 j9.2.2.1 j9.2.1 c_ways c_fewest c_nextWays c_nextFewest x_length x_letters told refusals ends)) hf (fun j9 hf => ?_) (fun hj hf => ?_)
    · refine s_iinc (lv1 := [(6, .int (v7.2.1 + (1 : Int32))), (0, .ref (ad 0)), (1, .int a1), (2, .int a2), (3, .int a3), (5, .int j9.1)]) C 48 6 5 rfl dX5_singlesTo_45 rfl ic_1 (Nat.le_of_ble_eq_true rfl) rfl ?_
      refine s_goto C 7 dX5_singlesTo_48 rfl ?_
      exact s_lv [1, 2, 3, 4, 5, 0] rfl (ih8 ((j9.1, v7.2.1 + (1 : Int32), j9.2.2.2.1, j9.2.2.2.2, j9.2.2.1, j9.2.1) : Int32 × Int32 × Int32 × Int32 × Int32 × Int32) hf)
    · refine s_if_eq C 45 27 rfl dX5_singlesTo_24 rfl (fun hc13 => ?_) (fun hc13 => ?_)
      · replace hf := bn_t hc13 hf
        replace hf := bn_i hf
        exact s_lv [1, 2, 3, 4, 5, 6] rfl (hj ((v7.1, v7.2.2.2.2.2, v7.2.2.2.2.1, v7.2.2.1, v7.2.2.2.1) : Int32 × Int32 × Int32 × Int32 × Int32) hf)
      · replace hf := bn_f hc13 hf
        refine s_aload_n C 28 1 rfl dX5_singlesTo_27 rfl ?_
        refine s_iload_n C 29 2 rfl dX5_singlesTo_28 rfl ?_
        refine s_iload_n C 30 4 rfl dX5_singlesTo_29 rfl ?_
        refine s_iload C 32 0 rfl dX5_singlesTo_30 rfl ?_
        refine s_iconst C 33 rfl dX5_singlesTo_32 ic_m1 ?_
        refine s_ixor C 34 rfl dX5_singlesTo_33 ?_
        refine s_iand C 35 rfl dX5_singlesTo_34 ?_
        obtain ⟨r10, q11, hf⟩ := bn_b hf
        refine s_callW (T := TX5) (N := 11) (ci := 4) (q0 := 0) (rest := []) C 38 (c_X5_shareOf l D cI adK adV ad kc tolds hasImage n_heirs n_left n_bitten n_kinds n_figures k_heirs k_left k_bitten k_kinds k_figures t_heirs t_left t_bitten t_kinds t_figures v7.2.2.1 v7.2.2.2.1 v7.2.2.2.2.1 v7.2.2.2.2.2 c_ways c_fewest c_nextWays c_nextFewest x_length x_letters told refusals ends a1 (a3 &&& ((jshl (1 : Int32) v7.2.1) ^^^ (-1 : Int32))) r10 q11) (gV uu516 uu518 uu1548 uu1 uu519) hd_X5_shareOf rfl ⟨rfl, rfl⟩ ⟨Nat.le_of_ble_eq_true rfl, Nat.le_of_ble_eq_true rfl⟩ ⟨Nat.le_of_ble_eq_true rfl, Nat.le_of_ble_eq_true rfl⟩ rfl rfl rfl (Nat.le_of_ble_eq_true rfl) rfl dX5_singlesTo_35 (fun _ => ?_)
        refine s_iload_n C 39 3 rfl dX5_singlesTo_38 rfl ?_
        refine s_icmp_lt C 45 42 rfl dX5_singlesTo_39 rfl (fun hc12 => ?_) (fun hc12 => ?_)
        · replace hf := bn_t hc12 hf
          replace hf := bn_i hf
          exact s_lv [1, 2, 3, 4, 5, 6] rfl (hj ((v7.1, r10.2.2.2.2, r10.2.2.2.1, r10.2.1, r10.2.2.1) : Int32 × Int32 × Int32 × Int32 × Int32) hf)
        · replace hf := bn_f hc12 hf
          refine s_iinc (lv1 := [(5, .int (v7.1 + (1 : Int32))), (7, .int (jshl (1 : Int32) v7.2.1)), (0, .ref (ad 0)), (1, .int a1), (2, .int a2), (3, .int a3), (6, .int v7.2.1)]) C 45 5 5 rfl dX5_singlesTo_42 rfl ic_1 (Nat.le_of_ble_eq_true rfl) rfl ?_
          replace hf := bn_i hf
          exact s_lv [2, 3, 4, 5, 0, 6] rfl (hj ((v7.1 + (1 : Int32), r10.2.2.2.2, r10.2.2.2.1, r10.2.1, r10.2.2.1) : Int32 × Int32 × Int32 × Int32 × Int32) hf)


theorem hd_X5_pairsTo : yX5_pairsTo.cls = RX5 ∧ yX5_pairsTo.cls ≠ "java/lang/invoke/MethodHandle" ∧ yX5_pairsTo.cls ≠ "java/lang/invoke/VarHandle" ∧ (parseMethodDescriptor yX5_pairsTo.desc).map (fun d => d.parameters.length) = some 2 := by decide +kernel
set_option maxHeartbeats 4000000 in
set_option maxRecDepth 100000 in
theorem c_X5_pairsTo (l : Launch) (D : va_G) (cI : ClassId) (adK adV : Nat → Nat) (ad : Nat → Nat) (kc : Nat → Nat) (tolds : Int32) (hasImage : Int32) (n_heirs : Int32) (n_left : Int32) (n_bitten : Int32) (n_kinds : (Nat → Int32)) (n_figures : (Nat → Int32)) (k_heirs : Int32) (k_left : Int32) (k_bitten : Int32) (k_kinds : (Nat → Int32)) (k_figures : (Nat → Int32)) (t_heirs : Int32) (t_left : Int32) (t_bitten : Int32) (t_kinds : (Nat → Int32)) (t_figures : (Nat → Int32)) (r_gone : Int32) (r_heaps : Int32) (r_fewestCells : Int32) (r_deed : Int32) (c_ways : (Nat → Int32)) (c_fewest : (Nat → Int32)) (c_nextWays : (Nat → Int32)) (c_nextFewest : (Nat → Int32)) (x_length : Int32) (x_letters : (Nat → Int32)) (told : (Nat → Int32)) (refusals : (Nat → Int32)) (ends : (Nat → Int32)) (a1 : Int32) (a2 : Int32) (o : Int32 × Int32 × Int32 × Int32 × Int32) (hf : f_X5_pairsTo n_left n_kinds n_figures r_gone r_heaps r_fewestCells r_deed a1 a2 = some o) : Ct l D cI adK adV yX5_pairsTo (wy yX5_pairsTo cX5_pairsTo 6 (some .int)) { frames := 5, cells := 0, slots := 0, locals := 120 } 0 0 [.ref (ad 0), .int a1, .int a2] (wX ad kc cI tolds hasImage n_heirs n_left n_bitten n_kinds n_figures k_heirs k_left k_bitten k_kinds k_figures t_heirs t_left t_bitten t_kinds t_figures r_gone r_heaps r_fewestCells r_deed c_ways c_fewest c_nextWays c_nextFewest x_length x_letters told refusals ends) (fun _ => (wX ad kc cI tolds hasImage n_heirs n_left n_bitten n_kinds n_figures k_heirs k_left k_bitten k_kinds k_figures t_heirs t_left t_bitten t_kinds t_figures o.2.1 o.2.2.1 o.2.2.2.1 o.2.2.2.2 c_ways c_fewest c_nextWays c_nextFewest x_length x_letters told refusals ends)) (some (.int o.1)) := by
  refine Ct.of (cc := cX5_pairsTo) (nL := 6) (ret := (some .int)) (own := RX5) (by decide) (Nat.le_of_ble_eq_true rfl) rfl ?_
  intro p e s m args below meth c A C hr hlk hnm
  refine s_lv (lv1 := [(0, .ref (ad 0)), (1, .int a1), (2, .int a2)]) [0, 1, 2] rfl ?_
  unfold f_X5_pairsTo at hf
  refine s_iconst C 1 rfl dX5_pairsTo_0 ic_0 ?_
  refine s_istore_n (lv1 := [(3, .int (0 : Int32)), (0, .ref (ad 0)), (1, .int a1), (2, .int a2)]) C 2 3 rfl dX5_pairsTo_1 rfl (Nat.le_of_ble_eq_true rfl) rfl ?_
  refine s_iconst C 3 rfl dX5_pairsTo_2 ic_0 ?_
  refine s_istore (lv1 := [(4, .int (0 : Int32)), (3, .int (0 : Int32)), (0, .ref (ad 0)), (1, .int a1), (2, .int a2)]) C 5 4 rfl dX5_pairsTo_3 (Nat.le_of_ble_eq_true rfl) rfl ?_
  refine s_lv (lv1 := [(0, .ref (ad 0)), (1, .int a1), (2, .int a2), (3, .int (0 : Int32)), (4, .int (0 : Int32))]) [2, 3, 4, 1, 0] rfl ?_
  refine s_loop (α := Int32 × Int32 × Int32 × Int32 × Int32 × Int32) (fun n v6 => f_X5_pairsTo_5 a1 a2 n_left n_kinds n_figures n v6.1 v6.2.1 v6.2.2.1 v6.2.2.2.1 v6.2.2.2.2.1 v6.2.2.2.2.2) 5 (fun v6 => [(0, .ref (ad 0)), (1, .int a1), (2, .int a2), (3, .int v6.1), (4, .int v6.2.1)]) (fun v6 => (wX ad kc cI tolds hasImage n_heirs n_left n_bitten n_kinds n_figures k_heirs k_left k_bitten k_kinds k_figures t_heirs t_left t_bitten t_kinds t_figures v6.2.2.1 v6.2.2.2.1 v6.2.2.2.2.1 v6.2.2.2.2.2 c_ways c_fewest c_nextWays c_nextFewest x_length x_letters told refusals ends)) 1000 ((0 : Int32), (0 : Int32), r_gone, r_heaps, r_fewestCells, r_deed) hf (fun v6 hf => by simp only [f_X5_pairsTo_5] at hf; exact absurd hf (by simp)) (fun n ih7 v6 hf => ?_)
  replace hf := (f_X5_pairsTo_5_s _ _ _ _ _ _ _ _ _ _ _ _).symm.trans hf
  refine s_iload C 7 4 rfl dX5_pairsTo_5 rfl ?_
  refine s_bipush C 9 rfl dX5_pairsTo_7 bp_25 ?_
  refine s_icmp_ge C 62 12 rfl dX5_pairsTo_9 rfl (fun hc12 => ?_) (fun hc12 => ?_)
  · replace hf := ite_t hc12 hf
    refine s_iload_n C 63 3 rfl dX5_pairsTo_62 rfl ?_
    obtain rfl := Option.some.inj hf
    exact s_iret C kc hr hlk rfl rfl dX5_pairsTo_63
  · replace hf := ite_f hc12 hf
    refine s_iconst C 13 rfl dX5_pairsTo_12 ic_1 ?_
    refine s_iload C 15 4 rfl dX5_pairsTo_13 rfl ?_
    refine s_ishl C 16 rfl dX5_pairsTo_15 ?_
    refine s_istore (lv1 := [(5, .int (jshl (1 : Int32) v6.2.1)), (0, .ref (ad 0)), (1, .int a1), (2, .int a2), (3, .int v6.1), (4, .int v6.2.1)]) C 18 5 rfl dX5_pairsTo_16 (Nat.le_of_ble_eq_true rfl) rfl ?_
    refine s_aload_n C 19 1 rfl dX5_pairsTo_18 rfl ?_
    refine s_get (C1 := RX5) (T := TX5) (N := 11) (ci := 4) C 22 0 0 uX5 rfl rfl (Nat.le_of_ble_eq_true rfl) uu130 rfl rfl rfl dX5_pairsTo_19 ?_
    refine s_get (C1 := RX0) (T := TX0) (N := 5) (ci := 0) C 25 1 3 uX0 rfl rfl (Nat.le_of_ble_eq_true rfl) uu53 rfl rfl rfl dX5_pairsTo_22 ?_
    refine s_iload C 27 0 rfl dX5_pairsTo_25 rfl ?_
    refine s_iand C 28 rfl dX5_pairsTo_27 ?_
    refine s_bn (α := Int32 × Int32 × Int32 × Int32 × Int32) 56 (fun j8 => [(0, .ref (ad 0)), (1, .int a1), (2, .int a2), (3, .int j8.1), (4, .int v6.2.1)]) (fun j8 => []) (fun j8 => (wX ad kc cI tolds hasImage n_heirs n_left n_bitten n_kinds n_figures k_heirs k_left k_bitten k_kinds k_figures t_heirs t_left t_bitten t_kinds t_figures j8.2.2.2.1 j8.2.2.2.2 j8.2.2.1 j8.2.1 c_ways c_fewest c_nextWays c_nextFewest x_length x_letters told refusals ends)) hf (fun j8 hf => ?_) (fun hj hf => ?_)
    · refine s_iinc (lv1 := [(4, .int (v6.2.1 + (1 : Int32))), (0, .ref (ad 0)), (1, .int a1), (2, .int a2), (3, .int j8.1)]) C 59 4 4 rfl dX5_pairsTo_56 rfl ic_1 (Nat.le_of_ble_eq_true rfl) rfl ?_
      refine s_goto C 5 dX5_pairsTo_59 rfl ?_
      exact s_lv [1, 2, 3, 4, 0] rfl (ih7 ((j8.1, v6.2.1 + (1 : Int32), j8.2.2.2.1, j8.2.2.2.2, j8.2.2.1, j8.2.1) : Int32 × Int32 × Int32 × Int32 × Int32 × Int32) hf)
    · refine s_if_eq C 56 31 rfl dX5_pairsTo_28 rfl (fun hc11 => ?_) (fun hc11 => ?_)
      · replace hf := bn_t hc11 hf
        replace hf := bn_i hf
        exact s_lv [1, 2, 3, 4, 5] rfl (hj ((v6.1, v6.2.2.2.2.2, v6.2.2.2.2.1, v6.2.2.1, v6.2.2.2.1) : Int32 × Int32 × Int32 × Int32 × Int32) hf)
      · replace hf := bn_f hc11 hf
        refine s_iload_n C 32 4 rfl dX5_pairsTo_31 rfl ?_
        refine s_aload_n C 33 1 rfl dX5_pairsTo_32 rfl ?_
        refine s_iload_n C 34 2 rfl dX5_pairsTo_33 rfl ?_
        refine s_iload_n C 35 3 rfl dX5_pairsTo_34 rfl ?_
        refine s_aload_n C 36 1 rfl dX5_pairsTo_35 rfl ?_
        refine s_get (C1 := RX5) (T := TX5) (N := 11) (ci := 4) C 39 0 0 uX5 rfl rfl (Nat.le_of_ble_eq_true rfl) uu130 rfl rfl rfl dX5_pairsTo_36 ?_
        refine s_get (C1 := RX0) (T := TX0) (N := 5) (ci := 0) C 42 1 3 uX0 rfl rfl (Nat.le_of_ble_eq_true rfl) uu53 rfl rfl rfl dX5_pairsTo_39 ?_
        refine s_iload C 44 0 rfl dX5_pairsTo_42 rfl ?_
        refine s_iconst C 45 rfl dX5_pairsTo_44 ic_m1 ?_
        refine s_ixor C 46 rfl dX5_pairsTo_45 ?_
        refine s_iand C 47 rfl dX5_pairsTo_46 ?_
        refine s_iload C 49 5 rfl dX5_pairsTo_47 rfl ?_
        refine s_iconst C 50 rfl dX5_pairsTo_49 ic_1 ?_
        refine s_iadd C 51 rfl dX5_pairsTo_50 ?_
        obtain ⟨r9, q10, hf⟩ := bn_b hf
        refine s_callW (T := TX5) (N := 11) (ci := 4) (q0 := 0) (rest := [.int v6.1]) C 54 (c_X5_singlesTo l D cI adK adV ad kc tolds hasImage n_heirs n_left n_bitten n_kinds n_figures k_heirs k_left k_bitten k_kinds k_figures t_heirs t_left t_bitten t_kinds t_figures v6.2.2.1 v6.2.2.2.1 v6.2.2.2.2.1 v6.2.2.2.2.2 c_ways c_fewest c_nextWays c_nextFewest x_length x_letters told refusals ends a1 a2 (n_left &&& ((jshl (1 : Int32) v6.2.1) ^^^ (-1 : Int32))) (v6.2.1 + (1 : Int32)) r9 q10) (gV uu885 uu887 uu1567 uu1 uu888) hd_X5_singlesTo rfl ⟨rfl, rfl⟩ ⟨Nat.le_of_ble_eq_true rfl, Nat.le_of_ble_eq_true rfl⟩ ⟨Nat.le_of_ble_eq_true rfl, Nat.le_of_ble_eq_true rfl⟩ rfl rfl rfl (Nat.le_of_ble_eq_true rfl) rfl dX5_pairsTo_51 (fun _ => ?_)
        refine s_iadd C 55 rfl dX5_pairsTo_54 ?_
        refine s_istore_n (lv1 := [(3, .int (v6.1 + r9.1)), (5, .int (jshl (1 : Int32) v6.2.1)), (0, .ref (ad 0)), (1, .int a1), (2, .int a2), (4, .int v6.2.1)]) C 56 3 rfl dX5_pairsTo_55 rfl (Nat.le_of_ble_eq_true rfl) rfl ?_
        replace hf := bn_i hf
        exact s_lv [2, 3, 4, 0, 5] rfl (hj ((v6.1 + r9.1, r9.2.2.2.2, r9.2.2.2.1, r9.2.1, r9.2.2.1) : Int32 × Int32 × Int32 × Int32 × Int32) hf)


theorem hd_X5_trialOfText : yX5_trialOfText.cls = RX5 ∧ yX5_trialOfText.cls ≠ "java/lang/invoke/MethodHandle" ∧ yX5_trialOfText.cls ≠ "java/lang/invoke/VarHandle" ∧ (parseMethodDescriptor yX5_trialOfText.desc).map (fun d => d.parameters.length) = some 0 := by decide +kernel
set_option maxHeartbeats 4000000 in
set_option maxRecDepth 100000 in
theorem c_X5_trialOfText (l : Launch) (D : va_G) (cI : ClassId) (adK adV : Nat → Nat) (ad : Nat → Nat) (kc : Nat → Nat) (tolds : Int32) (hasImage : Int32) (n_heirs : Int32) (n_left : Int32) (n_bitten : Int32) (n_kinds : (Nat → Int32)) (n_figures : (Nat → Int32)) (k_heirs : Int32) (k_left : Int32) (k_bitten : Int32) (k_kinds : (Nat → Int32)) (k_figures : (Nat → Int32)) (t_heirs : Int32) (t_left : Int32) (t_bitten : Int32) (t_kinds : (Nat → Int32)) (t_figures : (Nat → Int32)) (r_gone : Int32) (r_heaps : Int32) (r_fewestCells : Int32) (r_deed : Int32) (c_ways : (Nat → Int32)) (c_fewest : (Nat → Int32)) (c_nextWays : (Nat → Int32)) (c_nextFewest : (Nat → Int32)) (x_length : Int32) (x_letters : (Nat → Int32)) (told : (Nat → Int32)) (refusals : (Nat → Int32)) (ends : (Nat → Int32))  (o : Int32 × Int32 × Int32 × Int32 × (Nat → Int32) × (Nat → Int32)) (hf : f_X5_trialOfText n_heirs n_left n_bitten n_kinds n_figures t_heirs t_left t_bitten t_kinds t_figures x_length x_letters = some o) : Ct l D cI adK adV yX5_trialOfText (wy yX5_trialOfText cX5_trialOfText 4 (some .int)) { frames := 6, cells := 0, slots := 0, locals := 137 } 0 0 [.ref (ad 0)] (wX ad kc cI tolds hasImage n_heirs n_left n_bitten n_kinds n_figures k_heirs k_left k_bitten k_kinds k_figures t_heirs t_left t_bitten t_kinds t_figures r_gone r_heaps r_fewestCells r_deed c_ways c_fewest c_nextWays c_nextFewest x_length x_letters told refusals ends) (fun _ => (wX ad kc cI tolds hasImage n_heirs n_left n_bitten n_kinds n_figures k_heirs k_left k_bitten k_kinds k_figures o.2.1 o.2.2.1 o.2.2.2.1 o.2.2.2.2.1 o.2.2.2.2.2 r_gone r_heaps r_fewestCells r_deed c_ways c_fewest c_nextWays c_nextFewest x_length x_letters told refusals ends)) (some (.int o.1)) := by
  refine Ct.of (cc := cX5_trialOfText) (nL := 4) (ret := (some .int)) (own := RX5) (by decide) (Nat.le_of_ble_eq_true rfl) rfl ?_
  intro p e s m args below meth c A C hr hlk hnm
  refine s_lv (lv1 := [(0, .ref (ad 0))]) [0] rfl ?_
  unfold f_X5_trialOfText at hf
  refine s_aload_n C 1 0 rfl dX5_trialOfText_0 rfl ?_
  refine s_get (C1 := RX5) (T := TX5) (N := 11) (ci := 4) C 4 0 5 uX5 rfl rfl (Nat.le_of_ble_eq_true rfl) uu140 rfl rfl rfl dX5_trialOfText_1 ?_
  obtain ⟨r1, q2, hf⟩ := bn_s hf
  refine s_callV (T := TX4) (N := 2) (ci := 3) (q0 := 16) (rest := []) (wr := [((ad 0), .inr (4, [.ref (ad 1), .ref (ad 4), .ref (ad 7), .ref (ad 10), .ref (ad 11), .ref (ad 12), .ref (ad 14), .ref (ad 15), .ref (ad 16), .int tolds, .int hasImage])), ((ad 1), .inr (0, [.ref (ad 2), .ref (ad 3), .int n_heirs, .int n_left, .int n_bitten])), ((ad 2), .inl (cI, 5, .inl n_kinds)), ((ad 3), .inl (cI, 5, .inl n_figures)), ((ad 4), .inr (0, [.ref (ad 5), .ref (ad 6), .int k_heirs, .int k_left, .int k_bitten])), ((ad 5), .inl (cI, 5, .inl k_kinds)), ((ad 6), .inl (cI, 5, .inl k_figures)), ((ad 7), .inr (0, [.ref (ad 8), .ref (ad 9), .int t_heirs, .int t_left, .int t_bitten])), ((ad 8), .inl (cI, 5, .inl t_kinds)), ((ad 9), .inl (cI, 5, .inl t_figures)), ((ad 10), .inr (2, [.int r_gone, .int r_heaps, .int r_fewestCells, .int r_deed])), ((ad 11), .inr (1, [.ref (kc 0), .ref (kc 1), .ref (kc 2), .ref (kc 3)])), ((kc 0), .inl (cI, 64, .inl c_ways)), ((kc 1), .inl (cI, 64, .inl c_fewest)), ((kc 2), .inl (cI, 64, .inl c_nextWays)), ((kc 3), .inl (cI, 64, .inl c_nextFewest)), ((ad 14), .inl (cI, 16, .inl told)), ((ad 15), .inl (cI, 7, .inl refusals)), ((ad 16), .inl (cI, 4, .inl ends))]) (ws2 := fun _ => (wX ad kc cI tolds hasImage n_heirs n_left n_bitten n_kinds n_figures k_heirs k_left k_bitten k_kinds k_figures t_heirs t_left t_bitten t_kinds t_figures r_gone r_heaps r_fewestCells r_deed c_ways c_fewest c_nextWays c_nextFewest x_length x_letters told refusals ends)) C 7 (c_X4_misfit l D cI adK adV (ad 12) (ad 13) x_length x_letters r1 q2) (gV uu191 uu193 uu194 uu5 uu195) hd_X4_misfit rfl ⟨rfl, rfl⟩ ⟨Nat.le_of_ble_eq_true rfl, Nat.le_of_ble_eq_true rfl⟩ ⟨Nat.le_of_ble_eq_true rfl, Nat.le_of_ble_eq_true rfl⟩ rfl rfl rfl (Nat.le_of_ble_eq_true rfl) [16, 17] [0, 1, 2, 3, 4, 5, 6, 7, 8, 9, 10, 11, 12, 13, 14, 15, 18, 19, 20] [0, 1, 2, 3, 4, 5, 6, 7, 8, 9, 10, 11, 12, 13, 14, 15, 19, 20, 16, 17, 18] rfl rfl rfl rfl (by decide) rfl (fun _ => rfl) (fun _ => rfl) rfl dX5_trialOfText_4 (fun _ => ?_)
  refine s_istore_n (lv1 := [(1, .int r1), (0, .ref (ad 0))]) C 8 1 rfl dX5_trialOfText_7 rfl (Nat.le_of_ble_eq_true rfl) rfl ?_
  refine s_iload_n C 9 0 rfl dX5_trialOfText_8 rfl ?_
  refine s_iconst C 10 rfl dX5_trialOfText_9 ic_m1 ?_
  refine s_icmp_eq C 19 13 rfl dX5_trialOfText_10 rfl (fun hc25 => ?_) (fun hc25 => ?_)
  · replace hf := ite_t hc25 hf
    refine s_aload_n C 20 1 rfl dX5_trialOfText_19 rfl ?_
    refine s_get (C1 := RX5) (T := TX5) (N := 11) (ci := 4) C 23 0 2 uX5 rfl rfl (Nat.le_of_ble_eq_true rfl) uu134 rfl rfl rfl dX5_trialOfText_20 ?_
    refine s_aload_n C 24 1 rfl dX5_trialOfText_23 rfl ?_
    refine s_get (C1 := RX5) (T := TX5) (N := 11) (ci := 4) C 27 0 0 uX5 rfl rfl (Nat.le_of_ble_eq_true rfl) uu130 rfl rfl rfl dX5_trialOfText_24 ?_
    obtain ⟨r3, q4, hf⟩ := bn_s hf
    refine s_callV (T := TX0) (N := 5) (ci := 0) (q0 := 7) (rest := []) (wr := [((ad 0), .inr (4, [.ref (ad 1), .ref (ad 4), .ref (ad 7), .ref (ad 10), .ref (ad 11), .ref (ad 12), .ref (ad 14), .ref (ad 15), .ref (ad 16), .int tolds, .int hasImage])), ((ad 4), .inr (0, [.ref (ad 5), .ref (ad 6), .int k_heirs, .int k_left, .int k_bitten])), ((ad 5), .inl (cI, 5, .inl k_kinds)), ((ad 6), .inl (cI, 5, .inl k_figures)), ((ad 10), .inr (2, [.int r_gone, .int r_heaps, .int r_fewestCells, .int r_deed])), ((ad 11), .inr (1, [.ref (kc 0), .ref (kc 1), .ref (kc 2), .ref (kc 3)])), ((kc 0), .inl (cI, 64, .inl c_ways)), ((kc 1), .inl (cI, 64, .inl c_fewest)), ((kc 2), .inl (cI, 64, .inl c_nextWays)), ((kc 3), .inl (cI, 64, .inl c_nextFewest)), ((ad 12), .inr (3, [.ref (ad 13), .int x_length])), ((ad 13), .inl (cI, 96, .inl x_letters)), ((ad 14), .inl (cI, 16, .inl told)), ((ad 15), .inl (cI, 7, .inl refusals)), ((ad 16), .inl (cI, 4, .inl ends))]) (ws2 := fun _ => (wX ad kc cI tolds hasImage n_heirs n_left n_bitten n_kinds n_figures k_heirs k_left k_bitten k_kinds k_figures r3.1 r3.2.1 r3.2.2.1 r3.2.2.2.1 r3.2.2.2.2 r_gone r_heaps r_fewestCells r_deed c_ways c_fewest c_nextWays c_nextFewest x_length x_letters told refusals ends)) C 30 (c_X0_becomes l D cI adK adV (ad 7) (ad 8) (ad 9) (ad 1) (ad 2) (ad 3) t_heirs t_left t_bitten t_kinds t_figures n_heirs n_left n_bitten n_kinds n_figures r3 q4) (gV uu383 uu385 uu386 uu2 uu387) hd_X0_becomes rfl ⟨rfl, rfl⟩ ⟨Nat.le_of_ble_eq_true rfl, Nat.le_of_ble_eq_true rfl⟩ ⟨Nat.le_of_ble_eq_true rfl, Nat.le_of_ble_eq_true rfl⟩ rfl rfl rfl (Nat.le_of_ble_eq_true rfl) [7, 8, 9, 1, 2, 3] [0, 4, 5, 6, 10, 11, 12, 13, 14, 15, 16, 17, 18, 19, 20] [0, 18, 19, 20, 1, 2, 3, 15, 16, 17, 4, 5, 6, 7, 8, 9, 10, 11, 12, 13, 14] rfl rfl rfl rfl (by decide) rfl (fun _ => rfl) (fun _ => rfl) rfl dX5_trialOfText_27 (fun _ => ?_)
    refine s_iconst C 31 rfl dX5_trialOfText_30 ic_0 ?_
    refine s_istore_n (lv1 := [(2, .int (0 : Int32)), (1, .int r1), (0, .ref (ad 0))]) C 32 2 rfl dX5_trialOfText_31 rfl (Nat.le_of_ble_eq_true rfl) rfl ?_
    refine s_iconst C 33 rfl dX5_trialOfText_32 ic_0 ?_
    refine s_istore_n (lv1 := [(3, .int (0 : Int32)), (2, .int (0 : Int32)), (1, .int r1), (0, .ref (ad 0))]) C 34 3 rfl dX5_trialOfText_33 rfl (Nat.le_of_ble_eq_true rfl) rfl ?_
    refine s_lv (lv1 := [(0, .ref (ad 0)), (2, .int (0 : Int32)), (3, .int (0 : Int32))]) [3, 1, 0] rfl ?_
    refine s_loop (α := Int32 × Int32 × Int32 × Int32 × Int32 × (Nat → Int32) × (Nat → Int32)) (fun n v14 => f_X5_trialOfText_34 x_length x_letters n v14.1 v14.2.1 v14.2.2.1 v14.2.2.2.1 v14.2.2.2.2.1 v14.2.2.2.2.2.1 v14.2.2.2.2.2.2) 34 (fun v14 => [(0, .ref (ad 0)), (2, .int v14.1), (3, .int v14.2.1)]) (fun v14 => (wX ad kc cI tolds hasImage n_heirs n_left n_bitten n_kinds n_figures k_heirs k_left k_bitten k_kinds k_figures v14.2.2.1 v14.2.2.2.1 v14.2.2.2.2.1 v14.2.2.2.2.2.1 v14.2.2.2.2.2.2 r_gone r_heaps r_fewestCells r_deed c_ways c_fewest c_nextWays c_nextFewest x_length x_letters told refusals ends)) 1000 ((0 : Int32), (0 : Int32), r3.1, r3.2.1, r3.2.2.1, r3.2.2.2.1, r3.2.2.2.2) hf (fun v14 hf => by simp only [f_X5_trialOfText_34] at hf; exact absurd hf (by simp)) (fun n ih15 v14 hf => ?_)
    replace hf := (f_X5_trialOfText_34_s _ _ _ _ _ _ _ _ _ _).symm.trans hf
    refine s_iload_n C 35 2 rfl dX5_trialOfText_34 rfl ?_
    refine s_aload_n C 36 0 rfl dX5_trialOfText_35 rfl ?_
    refine s_get (C1 := RX5) (T := TX5) (N := 11) (ci := 4) C 39 0 5 uX5 rfl rfl (Nat.le_of_ble_eq_true rfl) uu140 rfl rfl rfl dX5_trialOfText_36 ?_
    refine s_get (C1 := RX4) (T := TX4) (N := 2) (ci := 3) C 42 16 1 uX4 rfl rfl (Nat.le_of_ble_eq_true rfl) uu126 rfl rfl rfl dX5_trialOfText_39 ?_
    refine s_icmp_ge C 90 45 rfl dX5_trialOfText_42 rfl (fun hc24 => ?_) (fun hc24 => ?_)
    · replace hf := ite_t hc24 hf
      refine s_iload_n C 91 1 rfl dX5_trialOfText_90 rfl ?_
      obtain rfl := Option.some.inj hf
      exact s_iret C kc hr hlk rfl rfl dX5_trialOfText_91
    · replace hf := ite_f hc24 hf
      refine s_aload_n C 46 0 rfl dX5_trialOfText_45 rfl ?_
      refine s_get (C1 := RX5) (T := TX5) (N := 11) (ci := 4) C 49 0 5 uX5 rfl rfl (Nat.le_of_ble_eq_true rfl) uu140 rfl rfl rfl dX5_trialOfText_46 ?_
      refine s_iload_n C 50 2 rfl dX5_trialOfText_49 rfl ?_
      refine s_aload_n C 51 0 rfl dX5_trialOfText_50 rfl ?_
      refine s_get (C1 := RX5) (T := TX5) (N := 11) (ci := 4) C 54 0 2 uX5 rfl rfl (Nat.le_of_ble_eq_true rfl) uu134 rfl rfl rfl dX5_trialOfText_51 ?_
      obtain ⟨r16, q17, hf⟩ := bn_s hf
      refine s_callV (T := TX4) (N := 2) (ci := 3) (q0 := 16) (rest := []) (wr := [((ad 0), .inr (4, [.ref (ad 1), .ref (ad 4), .ref (ad 7), .ref (ad 10), .ref (ad 11), .ref (ad 12), .ref (ad 14), .ref (ad 15), .ref (ad 16), .int tolds, .int hasImage])), ((ad 1), .inr (0, [.ref (ad 2), .ref (ad 3), .int n_heirs, .int n_left, .int n_bitten])), ((ad 2), .inl (cI, 5, .inl n_kinds)), ((ad 3), .inl (cI, 5, .inl n_figures)), ((ad 4), .inr (0, [.ref (ad 5), .ref (ad 6), .int k_heirs, .int k_left, .int k_bitten])), ((ad 5), .inl (cI, 5, .inl k_kinds)), ((ad 6), .inl (cI, 5, .inl k_figures)), ((ad 10), .inr (2, [.int r_gone, .int r_heaps, .int r_fewestCells, .int r_deed])), ((ad 11), .inr (1, [.ref (kc 0), .ref (kc 1), .ref (kc 2), .ref (kc 3)])), ((kc 0), .inl (cI, 64, .inl c_ways)), ((kc 1), .inl (cI, 64, .inl c_fewest)), ((kc 2), .inl (cI, 64, .inl c_nextWays)), ((kc 3), .inl (cI, 64, .inl c_nextFewest)), ((ad 14), .inl (cI, 16, .inl told)), ((ad 15), .inl (cI, 7, .inl refusals)), ((ad 16), .inl (cI, 4, .inl ends))]) (ws2 := fun _ => (wX ad kc cI tolds hasImage n_heirs n_left n_bitten n_kinds n_figures k_heirs k_left k_bitten k_kinds k_figures r16.2.1 r16.2.2.1 r16.2.2.2.1 r16.2.2.2.2.1 r16.2.2.2.2.2 r_gone r_heaps r_fewestCells r_deed c_ways c_fewest c_nextWays c_nextFewest x_length x_letters told refusals ends)) C 57 (c_X4_doesStatement l D cI adK adV (ad 12) (ad 13) (ad 7) (ad 8) (ad 9) x_length x_letters v14.2.2.1 v14.2.2.2.1 v14.2.2.2.2.1 v14.2.2.2.2.2.1 v14.2.2.2.2.2.2 v14.2.1 r16 q17) (gV uu393 uu395 uu396 uu5 uu397) hd_X4_doesStatement rfl ⟨rfl, rfl⟩ ⟨Nat.le_of_ble_eq_true rfl, Nat.le_of_ble_eq_true rfl⟩ ⟨Nat.le_of_ble_eq_true rfl, Nat.le_of_ble_eq_true rfl⟩ rfl rfl rfl (Nat.le_of_ble_eq_true rfl) [16, 17, 7, 8, 9] [0, 1, 2, 3, 4, 5, 6, 10, 11, 12, 13, 14, 15, 18, 19, 20] [0, 1, 2, 3, 4, 5, 6, 18, 19, 20, 7, 8, 9, 10, 11, 12, 16, 17, 13, 14, 15] rfl rfl rfl rfl (by decide) rfl (fun _ => rfl) (fun _ => rfl) rfl dX5_trialOfText_54 (fun _ => ?_)
      refine s_if_ne C 66 60 rfl dX5_trialOfText_57 rfl (fun hc23 => ?_) (fun hc23 => ?_)
      · replace hf := ite_f hc23 hf
        refine s_iinc (lv1 := [(2, .int (v14.1 + (1 : Int32))), (0, .ref (ad 0)), (3, .int v14.2.1)]) C 69 2 1 rfl dX5_trialOfText_66 rfl ic_1 (Nat.le_of_ble_eq_true rfl) rfl ?_
        refine s_iload_n C 70 2 rfl dX5_trialOfText_69 rfl ?_
        refine s_iconst C 71 rfl dX5_trialOfText_70 ic_1 ?_
        refine s_aload_n C 72 1 rfl dX5_trialOfText_71 rfl ?_
        refine s_get (C1 := RX5) (T := TX5) (N := 11) (ci := 4) C 75 0 5 uX5 rfl rfl (Nat.le_of_ble_eq_true rfl) uu140 rfl rfl rfl dX5_trialOfText_72 ?_
        refine s_iload_n C 76 2 rfl dX5_trialOfText_75 rfl ?_
        obtain ⟨r18, q19, hf⟩ := bn_s hf
        refine s_callV (T := TX4) (N := 2) (ci := 3) (q0 := 16) (rest := [.int (1 : Int32), .int v14.2.1]) (wr := [((ad 0), .inr (4, [.ref (ad 1), .ref (ad 4), .ref (ad 7), .ref (ad 10), .ref (ad 11), .ref (ad 12), .ref (ad 14), .ref (ad 15), .ref (ad 16), .int tolds, .int hasImage])), ((ad 1), .inr (0, [.ref (ad 2), .ref (ad 3), .int n_heirs, .int n_left, .int n_bitten])), ((ad 2), .inl (cI, 5, .inl n_kinds)), ((ad 3), .inl (cI, 5, .inl n_figures)), ((ad 4), .inr (0, [.ref (ad 5), .ref (ad 6), .int k_heirs, .int k_left, .int k_bitten])), ((ad 5), .inl (cI, 5, .inl k_kinds)), ((ad 6), .inl (cI, 5, .inl k_figures)), ((ad 7), .inr (0, [.ref (ad 8), .ref (ad 9), .int r16.2.1, .int r16.2.2.1, .int r16.2.2.2.1])), ((ad 8), .inl (cI, 5, .inl r16.2.2.2.2.1)), ((ad 9), .inl (cI, 5, .inl r16.2.2.2.2.2)), ((ad 10), .inr (2, [.int r_gone, .int r_heaps, .int r_fewestCells, .int r_deed])), ((ad 11), .inr (1, [.ref (kc 0), .ref (kc 1), .ref (kc 2), .ref (kc 3)])), ((kc 0), .inl (cI, 64, .inl c_ways)), ((kc 1), .inl (cI, 64, .inl c_fewest)), ((kc 2), .inl (cI, 64, .inl c_nextWays)), ((kc 3), .inl (cI, 64, .inl c_nextFewest)), ((ad 14), .inl (cI, 16, .inl told)), ((ad 15), .inl (cI, 7, .inl refusals)), ((ad 16), .inl (cI, 4, .inl ends))]) (ws2 := fun _ => (wX ad kc cI tolds hasImage n_heirs n_left n_bitten n_kinds n_figures k_heirs k_left k_bitten k_kinds k_figures r16.2.1 r16.2.2.1 r16.2.2.2.1 r16.2.2.2.2.1 r16.2.2.2.2.2 r_gone r_heaps r_fewestCells r_deed c_ways c_fewest c_nextWays c_nextFewest x_length x_letters told refusals ends)) C 79 (c_X4_formAt l D cI adK adV (ad 12) (ad 13) x_length x_letters v14.2.1 r18 q19) (gV uu461 uu199 uu200 uu5 uu201) hd_X4_formAt rfl ⟨rfl, rfl⟩ ⟨Nat.le_of_ble_eq_true rfl, Nat.le_of_ble_eq_true rfl⟩ ⟨Nat.le_of_ble_eq_true rfl, Nat.le_of_ble_eq_true rfl⟩ rfl rfl rfl (Nat.le_of_ble_eq_true rfl) [16, 17] [0, 1, 2, 3, 4, 5, 6, 7, 8, 9, 10, 11, 12, 13, 14, 15, 18, 19, 20] [0, 1, 2, 3, 4, 5, 6, 7, 8, 9, 10, 11, 12, 13, 14, 15, 19, 20, 16, 17, 18] rfl rfl rfl rfl (by decide) rfl (fun _ => rfl) (fun _ => rfl) rfl dX5_trialOfText_76 (fun _ => ?_)
        obtain ⟨h22, hf⟩ := ck_ltJ hf
        obtain ⟨r20, q21, hf⟩ := bn_s hf
        refine s_callT (rest := [.int (1 : Int32), .int v14.2.1]) C 82 h22 (c_J0_length_8abf5 l D cI adK adV r18 r20 q21) (gV uu463 uu215 uu216 uu7 uu217) hd_J0_length_8abf5 rfl ⟨rfl, rfl⟩ ⟨Nat.le_of_ble_eq_true rfl, Nat.le_of_ble_eq_true rfl⟩ ⟨Nat.le_of_ble_eq_true rfl, Nat.le_of_ble_eq_true rfl⟩ rfl (Nat.le_of_ble_eq_true rfl) rfl dX5_trialOfText_79 ?_
        refine s_mmax C 85 uu465 uu310 uu11 uu311 ⟨Nat.le_of_ble_eq_true rfl, Nat.le_of_ble_eq_true rfl, Nat.le_of_ble_eq_true rfl, Nat.le_of_ble_eq_true rfl⟩ rfl dX5_trialOfText_82 ?_
        refine s_iadd C 86 rfl dX5_trialOfText_85 ?_
        refine s_istore_n (lv1 := [(3, .int (v14.2.1 + (jmax (1 : Int32) r20))), (2, .int (v14.1 + (1 : Int32))), (0, .ref (ad 0))]) C 87 3 rfl dX5_trialOfText_86 rfl (Nat.le_of_ble_eq_true rfl) rfl ?_
        refine s_goto C 34 dX5_trialOfText_87 rfl ?_
        exact s_lv [2, 1, 0] rfl (ih15 ((v14.1 + (1 : Int32), v14.2.1 + (jmax (1 : Int32) r20), r16.2.1, r16.2.2.1, r16.2.2.2.1, r16.2.2.2.2.1, r16.2.2.2.2.2) : Int32 × Int32 × Int32 × Int32 × Int32 × (Nat → Int32) × (Nat → Int32)) hf)
      · replace hf := ite_t hc23 hf
        refine s_sipush C 63 rfl dX5_trialOfText_60 sp_m2000 ?_
        refine s_iload_n C 64 2 rfl dX5_trialOfText_63 rfl ?_
        refine s_isub C 65 rfl dX5_trialOfText_64 ?_
        obtain rfl := Option.some.inj hf
        exact s_iret C kc hr hlk rfl rfl dX5_trialOfText_65
  · replace hf := ite_f hc25 hf
    refine s_sipush C 16 rfl dX5_trialOfText_13 sp_m1000 ?_
    refine s_iload_n C 17 0 rfl dX5_trialOfText_16 rfl ?_
    refine s_isub C 18 rfl dX5_trialOfText_17 ?_
    obtain rfl := Option.some.inj hf
    exact s_iret C kc hr hlk rfl rfl dX5_trialOfText_18

