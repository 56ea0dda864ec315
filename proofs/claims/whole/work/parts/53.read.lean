
theorem hd_X1_waysDone : yX1_waysDone.cls = RX1 ∧ yX1_waysDone.cls ≠ "java/lang/invoke/MethodHandle" ∧ yX1_waysDone.cls ≠ "java/lang/invoke/VarHandle" ∧ (parseMethodDescriptor yX1_waysDone.desc).map (fun d => d.parameters.length) = some 0 := by decide +kernel
set_option maxHeartbeats 4000000 in
set_option maxRecDepth 100000 in
theorem c_X1_waysDone (l : Launch) (D : va_G) (cI : ClassId) (adK adV : Nat → Nat) (b0 : Nat) (kc : Nat → Nat) (c_ways : (Nat → Int32)) (c_fewest : (Nat → Int32)) (c_nextWays : (Nat → Int32)) (c_nextFewest : (Nat → Int32))  (o : Int32) (hf : f_X1_waysDone c_ways = some o) : Ct l D cI adK adV yX1_waysDone (wy yX1_waysDone cX1_waysDone 1 (some .int)) { frames := 0, cells := 0, slots := 0, locals := 0 } 0 0 [.ref b0] (wCover b0 kc cI c_ways c_fewest c_nextWays c_nextFewest) (fun _ => (wCover b0 kc cI c_ways c_fewest c_nextWays c_nextFewest)) (some (.int o)) := by
  refine Ct.of (cc := cX1_waysDone) (nL := 1) (ret := (some .int)) (own := RX1) (by decide) (Nat.le_of_ble_eq_true rfl) rfl ?_
  intro p e s m args below meth c A C hr hlk hnm
  refine s_lv (lv1 := [(0, .ref b0)]) [0] rfl ?_
  unfold f_X1_waysDone at hf
  refine s_aload_n C 1 0 rfl dX1_waysDone_0 rfl ?_
  refine s_get (C1 := RX1) (T := TX1) (N := 4) (ci := 1) C 4 0 0 uX1 rfl rfl (Nat.le_of_ble_eq_true rfl) uu101 rfl rfl rfl dX1_waysDone_1 ?_
  refine s_iconst C 5 rfl dX1_waysDone_4 ic_0 ?_
  obtain ⟨h1, hf⟩ := ck_in hf
  refine s_iald C 6 1 rfl h1 rfl dX1_waysDone_5 ?_
  obtain rfl := Option.some.inj hf
  exact s_iret C kc hr hlk rfl rfl dX1_waysDone_6


theorem hd_X1_fewDone : yX1_fewDone.cls = RX1 ∧ yX1_fewDone.cls ≠ "java/lang/invoke/MethodHandle" ∧ yX1_fewDone.cls ≠ "java/lang/invoke/VarHandle" ∧ (parseMethodDescriptor yX1_fewDone.desc).map (fun d => d.parameters.length) = some 0 := by decide +kernel
set_option maxHeartbeats 4000000 in
set_option maxRecDepth 100000 in
theorem c_X1_fewDone (l : Launch) (D : va_G) (cI : ClassId) (adK adV : Nat → Nat) (b0 : Nat) (kc : Nat → Nat) (c_ways : (Nat → Int32)) (c_fewest : (Nat → Int32)) (c_nextWays : (Nat → Int32)) (c_nextFewest : (Nat → Int32))  (o : Int32) (hf : f_X1_fewDone c_fewest = some o) : Ct l D cI adK adV yX1_fewDone (wy yX1_fewDone cX1_fewDone 1 (some .int)) { frames := 0, cells := 0, slots := 0, locals := 0 } 0 0 [.ref b0] (wCover b0 kc cI c_ways c_fewest c_nextWays c_nextFewest) (fun _ => (wCover b0 kc cI c_ways c_fewest c_nextWays c_nextFewest)) (some (.int o)) := by
  refine Ct.of (cc := cX1_fewDone) (nL := 1) (ret := (some .int)) (own := RX1) (by decide) (Nat.le_of_ble_eq_true rfl) rfl ?_
  intro p e s m args below meth c A C hr hlk hnm
  refine s_lv (lv1 := [(0, .ref b0)]) [0] rfl ?_
  unfold f_X1_fewDone at hf
  refine s_aload_n C 1 0 rfl dX1_fewDone_0 rfl ?_
  refine s_get (C1 := RX1) (T := TX1) (N := 4) (ci := 1) C 4 0 1 uX1 rfl rfl (Nat.le_of_ble_eq_true rfl) uu103 rfl rfl rfl dX1_fewDone_1 ?_
  refine s_iconst C 5 rfl dX1_fewDone_4 ic_0 ?_
  obtain ⟨h1, hf⟩ := ck_in hf
  refine s_iald C 6 2 rfl h1 rfl dX1_fewDone_5 ?_
  obtain rfl := Option.some.inj hf
  exact s_iret C kc hr hlk rfl rfl dX1_fewDone_6


theorem hd_X1_comesTo : yX1_comesTo.cls = RX1 ∧ yX1_comesTo.cls ≠ "java/lang/invoke/MethodHandle" ∧ yX1_comesTo.cls ≠ "java/lang/invoke/VarHandle" ∧ (parseMethodDescriptor yX1_comesTo.desc).map (fun d => d.parameters.length) = some 3 := by decide +kernel
set_option maxHeartbeats 4000000 in
set_option maxRecDepth 100000 in
theorem c_X1_comesTo (l : Launch) (D : va_G) (cI : ClassId) (adK adV : Nat → Nat) (b0 : Nat) (kc : Nat → Nat) (c_ways : (Nat → Int32)) (c_fewest : (Nat → Int32)) (c_nextWays : (Nat → Int32)) (c_nextFewest : (Nat → Int32)) (a1 : Int32) (a2 : Int32) (a3 : Int32) (o : (Nat → Int32) × (Nat → Int32)) (hf : f_X1_comesTo c_nextWays c_nextFewest a1 a2 a3 = some o) : Ct l D cI adK adV yX1_comesTo (wy yX1_comesTo cX1_comesTo 4 none) { frames := 1, cells := 0, slots := 0, locals := 24 } 0 0 [.ref b0, .int a1, .int a2, .int a3] (wCover b0 kc cI c_ways c_fewest c_nextWays c_nextFewest) (fun _ => (wCover b0 kc cI c_ways c_fewest o.1 o.2)) (none) := by
  refine Ct.of (cc := cX1_comesTo) (nL := 4) (ret := none) (own := RX1) (by decide) (Nat.le_of_ble_eq_true rfl) rfl ?_
  intro p e s m args below meth c A C hr hlk hnm
  refine s_lv (lv1 := [(0, .ref b0), (1, .int a1), (2, .int a2), (3, .int a3)]) [0, 1, 2, 3] rfl ?_
  unfold f_X1_comesTo at hf
  refine s_iload_n C 1 1 rfl dX1_comesTo_0 rfl ?_
  refine s_if_lt C 10 4 rfl dX1_comesTo_1 rfl (fun hc6 => ?_) (fun hc6 => ?_)
  · replace hf := ite_t hc6 hf
    obtain rfl := Option.some.inj hf
    exact s_vret C kc hr hlk rfl rfl dX1_comesTo_10
  · replace hf := ite_f hc6 hf
    refine s_iload_n C 5 1 rfl dX1_comesTo_4 rfl ?_
    refine s_bipush C 7 rfl dX1_comesTo_5 bp_64 ?_
    refine s_icmp_lt C 11 10 rfl dX1_comesTo_7 rfl (fun hc5 => ?_) (fun hc5 => ?_)
    · replace hf := ite_t hc5 hf
      refine s_aload_n C 12 0 rfl dX1_comesTo_11 rfl ?_
      refine s_get (C1 := RX1) (T := TX1) (N := 4) (ci := 1) C 15 0 2 uX1 rfl rfl (Nat.le_of_ble_eq_true rfl) uu105 rfl rfl rfl dX1_comesTo_12 ?_
      refine s_iload_n C 16 1 rfl dX1_comesTo_15 rfl ?_
      refine s_aload_n C 17 0 rfl dX1_comesTo_16 rfl ?_
      refine s_get (C1 := RX1) (T := TX1) (N := 4) (ci := 1) C 20 0 2 uX1 rfl rfl (Nat.le_of_ble_eq_true rfl) uu105 rfl rfl rfl dX1_comesTo_17 ?_
      refine s_iload_n C 21 1 rfl dX1_comesTo_20 rfl ?_
      obtain ⟨h1, hf⟩ := ck_in hf
      refine s_iald C 22 3 rfl h1 rfl dX1_comesTo_21 ?_
      refine s_iload_n C 23 2 rfl dX1_comesTo_22 rfl ?_
      refine s_iadd C 24 rfl dX1_comesTo_23 ?_
      refine s_ldc C 26 rfl dX1_comesTo_24 uu686 ?_
      refine s_irem C 27 rfl dX1_comesTo_26 (by decide) ?_
      obtain ⟨h2, hf⟩ := ck_in hf
      refine s_iast (ws1 := (wCover b0 kc cI c_ways c_fewest (upd c_nextWays a1.toNatClampNeg (jrem ((c_nextWays a1.toNatClampNeg) + a2) (1000003 : Int32))) c_nextFewest)) C 28 3 rfl h2 rfl rfl dX1_comesTo_27 ?_
      refine s_aload_n C 29 0 rfl dX1_comesTo_28 rfl ?_
      refine s_get (C1 := RX1) (T := TX1) (N := 4) (ci := 1) C 32 0 3 uX1 rfl rfl (Nat.le_of_ble_eq_true rfl) uu107 rfl rfl rfl dX1_comesTo_29 ?_
      refine s_iload_n C 33 1 rfl dX1_comesTo_32 rfl ?_
      refine s_aload_n C 34 0 rfl dX1_comesTo_33 rfl ?_
      refine s_get (C1 := RX1) (T := TX1) (N := 4) (ci := 1) C 37 0 3 uX1 rfl rfl (Nat.le_of_ble_eq_true rfl) uu107 rfl rfl rfl dX1_comesTo_34 ?_
      refine s_iload_n C 38 1 rfl dX1_comesTo_37 rfl ?_
      obtain ⟨h3, hf⟩ := ck_in hf
      refine s_iald C 39 4 rfl h3 rfl dX1_comesTo_38 ?_
      refine s_iload_n C 40 3 rfl dX1_comesTo_39 rfl ?_
      refine s_mmin C 43 uu688 uu315 uu11 uu316 ⟨Nat.le_of_ble_eq_true rfl, Nat.le_of_ble_eq_true rfl, Nat.le_of_ble_eq_true rfl, Nat.le_of_ble_eq_true rfl⟩ rfl dX1_comesTo_40 ?_
      obtain ⟨h4, hf⟩ := ck_in hf
      refine s_iast (ws1 := (wCover b0 kc cI c_ways c_fewest (upd c_nextWays a1.toNatClampNeg (jrem ((c_nextWays a1.toNatClampNeg) + a2) (1000003 : Int32))) (upd c_nextFewest a1.toNatClampNeg (jmin (c_nextFewest a1.toNatClampNeg) a3)))) C 44 4 rfl h4 rfl rfl dX1_comesTo_43 ?_
      obtain rfl := Option.some.inj hf
      exact s_vret C kc hr hlk rfl rfl dX1_comesTo_44
    · replace hf := ite_f hc5 hf
      obtain rfl := Option.some.inj hf
      exact s_vret C kc hr hlk rfl rfl dX1_comesTo_10


theorem hd_X1_empties : yX1_empties.cls = RX1 ∧ yX1_empties.cls ≠ "java/lang/invoke/MethodHandle" ∧ yX1_empties.cls ≠ "java/lang/invoke/VarHandle" ∧ (parseMethodDescriptor yX1_empties.desc).map (fun d => d.parameters.length) = some 0 := by decide +kernel
set_option maxHeartbeats 4000000 in
set_option maxRecDepth 100000 in
theorem c_X1_empties (l : Launch) (D : va_G) (cI : ClassId) (adK adV : Nat → Nat) (b0 : Nat) (kc : Nat → Nat) (c_ways : (Nat → Int32)) (c_fewest : (Nat → Int32)) (c_nextWays : (Nat → Int32)) (c_nextFewest : (Nat → Int32))  (o : (Nat → Int32) × (Nat → Int32)) (hf : f_X1_empties c_nextWays c_nextFewest = some o) : Ct l D cI adK adV yX1_empties (wy yX1_empties cX1_empties 2 none) { frames := 0, cells := 0, slots := 0, locals := 0 } 0 0 [.ref b0] (wCover b0 kc cI c_ways c_fewest c_nextWays c_nextFewest) (fun _ => (wCover b0 kc cI c_ways c_fewest o.1 o.2)) (none) := by
  refine Ct.of (cc := cX1_empties) (nL := 2) (ret := none) (own := RX1) (by decide) (Nat.le_of_ble_eq_true rfl) rfl ?_
  intro p e s m args below meth c A C hr hlk hnm
  refine s_lv (lv1 := [(0, .ref b0)]) [0] rfl ?_
  unfold f_X1_empties at hf
  refine s_iconst C 1 rfl dX1_empties_0 ic_0 ?_
  refine s_istore_n (lv1 := [(1, .int (0 : Int32)), (0, .ref b0)]) C 2 1 rfl dX1_empties_1 rfl (Nat.le_of_ble_eq_true rfl) rfl ?_
  refine s_lv (lv1 := [(0, .ref b0), (1, .int (0 : Int32))]) [1, 0] rfl ?_
  refine s_loop (α := Int32 × (Nat → Int32) × (Nat → Int32)) (fun n v4 => f_X1_empties_2 n v4.1 v4.2.1 v4.2.2) 2 (fun v4 => [(0, .ref b0), (1, .int v4.1)]) (fun v4 => (wCover b0 kc cI c_ways c_fewest v4.2.1 v4.2.2)) 1000 ((0 : Int32), c_nextWays, c_nextFewest) hf (fun v4 hf => by simp only [f_X1_empties_2] at hf; exact absurd hf (by simp)) (fun n ih5 v4 hf => ?_)
  replace hf := (f_X1_empties_2_s _ _ _ _).symm.trans hf
  refine s_iload_n C 3 1 rfl dX1_empties_2 rfl ?_
  refine s_bipush C 5 rfl dX1_empties_3 bp_64 ?_
  refine s_icmp_ge C 30 8 rfl dX1_empties_5 rfl (fun hc8 => ?_) (fun hc8 => ?_)
  · replace hf := ite_t hc8 hf
    obtain rfl := Option.some.inj hf
    exact s_vret C kc hr hlk rfl rfl dX1_empties_30
  · replace hf := ite_f hc8 hf
    refine s_aload_n C 9 0 rfl dX1_empties_8 rfl ?_
    refine s_get (C1 := RX1) (T := TX1) (N := 4) (ci := 1) C 12 0 2 uX1 rfl rfl (Nat.le_of_ble_eq_true rfl) uu105 rfl rfl rfl dX1_empties_9 ?_
    refine s_iload_n C 13 1 rfl dX1_empties_12 rfl ?_
    refine s_iconst C 14 rfl dX1_empties_13 ic_0 ?_
    obtain ⟨h6, hf⟩ := ck_in hf
    refine s_iast (ws1 := (wCover b0 kc cI c_ways c_fewest (upd v4.2.1 v4.1.toNatClampNeg (0 : Int32)) v4.2.2)) C 15 3 rfl h6 rfl rfl dX1_empties_14 ?_
    refine s_aload_n C 16 0 rfl dX1_empties_15 rfl ?_
    refine s_get (C1 := RX1) (T := TX1) (N := 4) (ci := 1) C 19 0 3 uX1 rfl rfl (Nat.le_of_ble_eq_true rfl) uu107 rfl rfl rfl dX1_empties_16 ?_
    refine s_iload_n C 20 1 rfl dX1_empties_19 rfl ?_
    refine s_sipush C 23 rfl dX1_empties_20 sp_1000 ?_
    obtain ⟨h7, hf⟩ := ck_in hf
    refine s_iast (ws1 := (wCover b0 kc cI c_ways c_fewest (upd v4.2.1 v4.1.toNatClampNeg (0 : Int32)) (upd v4.2.2 v4.1.toNatClampNeg (1000 : Int32)))) C 24 4 rfl h7 rfl rfl dX1_empties_23 ?_
    refine s_iinc (lv1 := [(1, .int (v4.1 + (1 : Int32))), (0, .ref b0)]) C 27 1 1 rfl dX1_empties_24 rfl ic_1 (Nat.le_of_ble_eq_true rfl) rfl ?_
    refine s_goto C 2 dX1_empties_27 rfl ?_
    exact s_lv [1, 0] rfl (ih5 ((v4.1 + (1 : Int32), upd v4.2.1 v4.1.toNatClampNeg (0 : Int32), upd v4.2.2 v4.1.toNatClampNeg (1000 : Int32)) : Int32 × (Nat → Int32) × (Nat → Int32)) hf)


theorem hd_X3_isInChancery : yX3_isInChancery.cls = RX3 ∧ yX3_isInChancery.cls ≠ "java/lang/invoke/MethodHandle" ∧ yX3_isInChancery.cls ≠ "java/lang/invoke/VarHandle" ∧ (parseMethodDescriptor yX3_isInChancery.desc).map (fun d => d.parameters.length) = some 0 := by decide +kernel
set_option maxHeartbeats 4000000 in
set_option maxRecDepth 100000 in
theorem c_X3_isInChancery (l : Launch) (D : va_G) (cI : ClassId) (adK adV : Nat → Nat) (b0 : Nat) (r_gone : Int32) (r_heaps : Int32) (r_fewestCells : Int32) (r_deed : Int32)  (o : Int32) (hf : f_X3_isInChancery r_deed = some o) : Ct l D cI adK adV yX3_isInChancery (wy yX3_isInChancery cX3_isInChancery 1 (some .boolean)) { frames := 0, cells := 0, slots := 0, locals := 0 } 0 0 [.ref b0] (wReading b0 cI r_gone r_heaps r_fewestCells r_deed) (fun _ => (wReading b0 cI r_gone r_heaps r_fewestCells r_deed)) (some (.int o)) := by
  refine Ct.of (cc := cX3_isInChancery) (nL := 1) (ret := (some .boolean)) (own := RX3) (by decide) (Nat.le_of_ble_eq_true rfl) rfl ?_
  intro p e s m args below meth c A C hr hlk hnm
  refine s_lv (lv1 := [(0, .ref b0)]) [0] rfl ?_
  unfold f_X3_isInChancery at hf
  refine s_aload_n C 1 0 rfl dX3_isInChancery_0 rfl ?_
  refine s_get (C1 := RX3) (T := TX3) (N := 4) (ci := 2) C 4 0 3 uX3 rfl rfl (Nat.le_of_ble_eq_true rfl) uu84 rfl rfl rfl dX3_isInChancery_1 ?_
  refine s_if_ne C 11 7 rfl dX3_isInChancery_4 rfl (fun hc1 => ?_) (fun hc1 => ?_)
  · replace hf := ite_f hc1 hf
    refine s_iconst C 12 rfl dX3_isInChancery_11 ic_0 ?_
    obtain rfl := Option.some.inj hf
    exact s_zret C (fun i => i) hr hlk (Or.inl rfl) rfl rfl dX3_isInChancery_12
  · replace hf := ite_t hc1 hf
    refine s_iconst C 8 rfl dX3_isInChancery_7 ic_1 ?_
    refine s_goto C 12 dX3_isInChancery_8 rfl ?_
    obtain rfl := Option.some.inj hf
    exact s_zret C (fun i => i) hr hlk (Or.inr rfl) rfl rfl dX3_isInChancery_12


theorem hd_X1_steps : yX1_steps.cls = RX1 ∧ yX1_steps.cls ≠ "java/lang/invoke/MethodHandle" ∧ yX1_steps.cls ≠ "java/lang/invoke/VarHandle" ∧ (parseMethodDescriptor yX1_steps.desc).map (fun d => d.parameters.length) = some 0 := by decide +kernel
set_option maxHeartbeats 4000000 in
set_option maxRecDepth 100000 in
theorem c_X1_steps (l : Launch) (D : va_G) (cI : ClassId) (adK adV : Nat → Nat) (b0 : Nat) (kc : Nat → Nat) (c_ways : (Nat → Int32)) (c_fewest : (Nat → Int32)) (c_nextWays : (Nat → Int32)) (c_nextFewest : (Nat → Int32))  (o : (Nat → Int32) × (Nat → Int32) × (Nat → Int32) × (Nat → Int32)) (hf : f_X1_steps c_ways c_fewest c_nextWays c_nextFewest = some o) : Ct l D cI adK adV yX1_steps (wy yX1_steps cX1_steps 3 none) { frames := 1, cells := 0, slots := 0, locals := 21 } 0 0 [.ref b0] (wCover b0 kc cI c_ways c_fewest c_nextWays c_nextFewest) (fun k => (wCover b0 k cI o.1 o.2.1 o.2.2.1 o.2.2.2)) (none) := by
  refine Ct.of (cc := cX1_steps) (nL := 3) (ret := none) (own := RX1) (by decide) (Nat.le_of_ble_eq_true rfl) rfl ?_
  intro p e s m args below meth c A C hr hlk hnm
  refine s_lv (lv1 := [(0, .ref b0)]) [0] rfl ?_
  unfold f_X1_steps at hf
  refine s_aload_n C 1 0 rfl dX1_steps_0 rfl ?_
  refine s_get (C1 := RX1) (T := TX1) (N := 4) (ci := 1) C 4 0 0 uX1 rfl rfl (Nat.le_of_ble_eq_true rfl) uu101 rfl rfl rfl dX1_steps_1 ?_
  refine s_astore_n (lv1 := [(1, .ref (kc 0)), (0, .ref b0)]) C 5 1 rfl dX1_steps_4 rfl (Nat.le_of_ble_eq_true rfl) rfl ?_
  refine s_aload_n C 6 1 rfl dX1_steps_5 rfl ?_
  refine s_get (C1 := RX1) (T := TX1) (N := 4) (ci := 1) C 9 0 1 uX1 rfl rfl (Nat.le_of_ble_eq_true rfl) uu103 rfl rfl rfl dX1_steps_6 ?_
  refine s_astore_n (lv1 := [(2, .ref (kc 1)), (1, .ref (kc 0)), (0, .ref b0)]) C 10 2 rfl dX1_steps_9 rfl (Nat.le_of_ble_eq_true rfl) rfl ?_
  refine s_aload_n C 11 2 rfl dX1_steps_10 rfl ?_
  refine s_aload_n C 12 2 rfl dX1_steps_11 rfl ?_
  refine s_get (C1 := RX1) (T := TX1) (N := 4) (ci := 1) C 15 0 2 uX1 rfl rfl (Nat.le_of_ble_eq_true rfl) uu105 rfl rfl rfl dX1_steps_12 ?_
  refine s_put (C1 := RX1) (T := TX1) (N := 4) (ci := 1) (ty := tyX1 0) (ws1 := [(b0, .inr (1, [.ref (kc 2), .ref (kc 1), .ref (kc 2), .ref (kc 3)])), ((kc 0), .inl (cI, 64, .inl c_ways)), ((kc 1), .inl (cI, 64, .inl c_fewest)), ((kc 2), .inl (cI, 64, .inl c_nextWays)), ((kc 3), .inl (cI, 64, .inl c_nextFewest))]) C 18 0 0 uX1 tyX1 tyX1_ok nmX1 rfl rfl (Nat.le_of_ble_eq_true rfl) uu101 rfl rfl (tyX1_ok 0 (Nat.le_of_ble_eq_true rfl)) ⟨rfl, rfl⟩ (Nat.le_of_ble_eq_true rfl) rfl rfl dX1_steps_15 ?_
  refine s_aload_n C 19 2 rfl dX1_steps_18 rfl ?_
  refine s_aload_n C 20 2 rfl dX1_steps_19 rfl ?_
  refine s_get (C1 := RX1) (T := TX1) (N := 4) (ci := 1) C 23 0 3 uX1 rfl rfl (Nat.le_of_ble_eq_true rfl) uu107 rfl rfl rfl dX1_steps_20 ?_
  refine s_put (C1 := RX1) (T := TX1) (N := 4) (ci := 1) (ty := tyX1 1) (ws1 := [(b0, .inr (1, [.ref (kc 2), .ref (kc 3), .ref (kc 2), .ref (kc 3)])), ((kc 0), .inl (cI, 64, .inl c_ways)), ((kc 1), .inl (cI, 64, .inl c_fewest)), ((kc 2), .inl (cI, 64, .inl c_nextWays)), ((kc 3), .inl (cI, 64, .inl c_nextFewest))]) C 26 0 1 uX1 tyX1 tyX1_ok nmX1 rfl rfl (Nat.le_of_ble_eq_true rfl) uu103 rfl rfl (tyX1_ok 1 (Nat.le_of_ble_eq_true rfl)) ⟨rfl, rfl⟩ (Nat.le_of_ble_eq_true rfl) rfl rfl dX1_steps_23 ?_
  refine s_aload_n C 27 2 rfl dX1_steps_26 rfl ?_
  refine s_aload_n C 28 1 rfl dX1_steps_27 rfl ?_
  refine s_put (C1 := RX1) (T := TX1) (N := 4) (ci := 1) (ty := tyX1 2) (ws1 := [(b0, .inr (1, [.ref (kc 2), .ref (kc 3), .ref (kc 0), .ref (kc 3)])), ((kc 0), .inl (cI, 64, .inl c_ways)), ((kc 1), .inl (cI, 64, .inl c_fewest)), ((kc 2), .inl (cI, 64, .inl c_nextWays)), ((kc 3), .inl (cI, 64, .inl c_nextFewest))]) C 31 0 2 uX1 tyX1 tyX1_ok nmX1 rfl rfl (Nat.le_of_ble_eq_true rfl) uu105 rfl rfl (tyX1_ok 2 (Nat.le_of_ble_eq_true rfl)) ⟨rfl, rfl⟩ (Nat.le_of_ble_eq_true rfl) rfl rfl dX1_steps_28 ?_
  refine s_aload_n C 32 2 rfl dX1_steps_31 rfl ?_
  refine s_aload_n C 33 0 rfl dX1_steps_32 rfl ?_
  refine s_put (C1 := RX1) (T := TX1) (N := 4) (ci := 1) (ty := tyX1 3) (ws1 := [(b0, .inr (1, [.ref (kc 2), .ref (kc 3), .ref (kc 0), .ref (kc 1)])), ((kc 0), .inl (cI, 64, .inl c_ways)), ((kc 1), .inl (cI, 64, .inl c_fewest)), ((kc 2), .inl (cI, 64, .inl c_nextWays)), ((kc 3), .inl (cI, 64, .inl c_nextFewest))]) C 36 0 3 uX1 tyX1 tyX1_ok nmX1 rfl rfl (Nat.le_of_ble_eq_true rfl) uu107 rfl rfl (tyX1_ok 3 (Nat.le_of_ble_eq_true rfl)) ⟨rfl, rfl⟩ (Nat.le_of_ble_eq_true rfl) rfl rfl dX1_steps_33 ?_
  refine s_ws (ws1 := (wCover b0 (sw kc) cI c_nextWays c_nextFewest c_ways c_fewest)) [0, 3, 4, 1, 2] rfl rfl rfl ?_
  refine s_aload_n C 37 2 rfl dX1_steps_36 rfl ?_
  obtain ⟨r1, q2, hf⟩ := bn_s hf
  refine s_callW (T := TX1) (N := 4) (ci := 1) (q0 := 0) (rest := []) C 40 (c_X1_empties l D cI adK adV b0 (sw kc) c_nextWays c_nextFewest c_ways c_fewest r1 q2) (gV uu676 uu678 uu1553 uu4 uu679) hd_X1_empties rfl ⟨rfl, rfl⟩ ⟨Nat.le_of_ble_eq_true rfl, Nat.le_of_ble_eq_true rfl⟩ ⟨Nat.le_of_ble_eq_true rfl, Nat.le_of_ble_eq_true rfl⟩ rfl rfl rfl (Nat.le_of_ble_eq_true rfl) rfl dX1_steps_37 (fun _ => ?_)
  obtain rfl := Option.some.inj hf
  exact s_vret C (sw kc) hr hlk rfl rfl dX1_steps_40


theorem hd_X3_reads : yX3_reads.cls = RX3 ∧ yX3_reads.cls ≠ "java/lang/invoke/MethodHandle" ∧ yX3_reads.cls ≠ "java/lang/invoke/VarHandle" ∧ (parseMethodDescriptor yX3_reads.desc).map (fun d => d.parameters.length) = some 1 := by decide +kernel
set_option maxHeartbeats 4000000 in
set_option maxRecDepth 100000 in
theorem c_X3_reads (l : Launch) (D : va_G) (cI : ClassId) (adK adV : Nat → Nat) (b0 : Nat) (r_gone : Int32) (r_heaps : Int32) (r_fewestCells : Int32) (r_deed : Int32) (a1 : Int32) (o : Int32 × Int32 × Int32 × Int32) (hf : f_X3_reads a1 = some o) : Ct l D cI adK adV yX3_reads (wy yX3_reads cX3_reads 7 none) { frames := 2, cells := 0, slots := 0, locals := 45 } 0 0 [.ref b0, .int a1] (wReading b0 cI r_gone r_heaps r_fewestCells r_deed) (fun _ => (wReading b0 cI o.1 o.2.1 o.2.2.1 o.2.2.2)) (none) := by
  refine Ct.of (cc := cX3_reads) (nL := 7) (ret := none) (own := RX3) (by decide) (Nat.le_of_ble_eq_true rfl) rfl ?_
  intro p e s m args below meth c A C hr hlk hnm
  refine s_lv (lv1 := [(0, .ref b0), (1, .int a1)]) [0, 1] rfl ?_
  unfold f_X3_reads at hf
  refine s_aload_n C 1 0 rfl dX3_reads_0 rfl ?_
  refine s_bipush C 3 rfl dX3_reads_1 bp_25 ?_
  refine s_iload_n C 4 1 rfl dX3_reads_3 rfl ?_
  obtain ⟨r1, q2, hf⟩ := bn_s hf
  refine s_callS0 (host := "") (rest := [.int (25 : Int32), .ref b0]) C 7 (c_J6_bitCount_0f7a4 l D cI adK adV a1 r1 q2) (gS uu527 uu489 uu15 uu490) hd_J6_bitCount_0f7a4 rfl ⟨rfl, rfl⟩ ⟨Nat.le_of_ble_eq_true rfl, Nat.le_of_ble_eq_true rfl⟩ ⟨Nat.le_of_ble_eq_true rfl, Nat.le_of_ble_eq_true rfl⟩ rfl (Nat.le_of_ble_eq_true rfl) rfl dX3_reads_4 ?_
  refine s_isub C 8 rfl dX3_reads_7 ?_
  refine s_put (C1 := RX3) (T := TX3) (N := 4) (ci := 2) (ty := tyX3 0) (ws1 := (wReading b0 cI ((25 : Int32) - r1) r_heaps r_fewestCells r_deed)) C 11 0 0 uX3 tyX3 tyX3_ok nmX3 rfl rfl (Nat.le_of_ble_eq_true rfl) uu74 rfl rfl (tyX3_ok 0 (Nat.le_of_ble_eq_true rfl)) ⟨rfl, rfl⟩ (Nat.le_of_ble_eq_true rfl) rfl rfl dX3_reads_8 ?_
  refine s_aload_n C 12 0 rfl dX3_reads_11 rfl ?_
  refine s_iconst C 13 rfl dX3_reads_12 ic_0 ?_
  refine s_put (C1 := RX3) (T := TX3) (N := 4) (ci := 2) (ty := tyX3 1) (ws1 := (wReading b0 cI ((25 : Int32) - r1) (0 : Int32) r_fewestCells r_deed)) C 16 0 1 uX3 tyX3 tyX3_ok nmX3 rfl rfl (Nat.le_of_ble_eq_true rfl) uu76 rfl rfl (tyX3_ok 1 (Nat.le_of_ble_eq_true rfl)) ⟨rfl, rfl⟩ (Nat.le_of_ble_eq_true rfl) rfl rfl dX3_reads_13 ?_
  refine s_aload_n C 17 0 rfl dX3_reads_16 rfl ?_
  refine s_iconst C 18 rfl dX3_reads_17 ic_0 ?_
  refine s_put (C1 := RX3) (T := TX3) (N := 4) (ci := 2) (ty := tyX3 2) (ws1 := (wReading b0 cI ((25 : Int32) - r1) (0 : Int32) (0 : Int32) r_deed)) C 21 0 2 uX3 tyX3 tyX3_ok nmX3 rfl rfl (Nat.le_of_ble_eq_true rfl) uu80 rfl rfl (tyX3_ok 2 (Nat.le_of_ble_eq_true rfl)) ⟨rfl, rfl⟩ (Nat.le_of_ble_eq_true rfl) rfl rfl dX3_reads_18 ?_
  refine s_aload_n C 22 0 rfl dX3_reads_21 rfl ?_
  refine s_iconst C 23 rfl dX3_reads_22 ic_0 ?_
  refine s_put (C1 := RX3) (T := TX3) (N := 4) (ci := 2) (ty := tyX3 3) (ws1 := (wReading b0 cI ((25 : Int32) - r1) (0 : Int32) (0 : Int32) (0 : Int32))) C 26 0 3 uX3 tyX3 tyX3_ok nmX3 rfl rfl (Nat.le_of_ble_eq_true rfl) uu84 rfl rfl (tyX3_ok 3 (Nat.le_of_ble_eq_true rfl)) ⟨rfl, rfl⟩ (Nat.le_of_ble_eq_true rfl) rfl rfl dX3_reads_23 ?_
  refine s_iconst C 27 rfl dX3_reads_26 ic_0 ?_
  refine s_istore_n (lv1 := [(2, .int (0 : Int32)), (0, .ref b0), (1, .int a1)]) C 28 2 rfl dX3_reads_27 rfl (Nat.le_of_ble_eq_true rfl) rfl ?_
  refine s_iload_n C 29 2 rfl dX3_reads_28 rfl ?_
  refine s_istore_n (lv1 := [(3, .int a1), (2, .int (0 : Int32)), (0, .ref b0), (1, .int a1)]) C 30 3 rfl dX3_reads_29 rfl (Nat.le_of_ble_eq_true rfl) rfl ?_
  refine s_iconst C 31 rfl dX3_reads_30 ic_0 ?_
  refine s_istore (lv1 := [(4, .int (0 : Int32)), (3, .int a1), (2, .int (0 : Int32)), (0, .ref b0), (1, .int a1)]) C 33 4 rfl dX3_reads_31 (Nat.le_of_ble_eq_true rfl) rfl ?_
  refine s_lv (lv1 := [(0, .ref b0), (2, .int (0 : Int32)), (3, .int a1), (4, .int (0 : Int32))]) [3, 2, 1, 0] rfl ?_
  refine s_loop (α := Int32 × Int32 × Int32 × Int32 × Int32 × Int32) (fun n v16 => f_X3_reads_33 ((25 : Int32) - r1) n v16.1 v16.2.1 v16.2.2.1 v16.2.2.2.1 v16.2.2.2.2.1 v16.2.2.2.2.2) 33 (fun v16 => [(0, .ref b0), (2, .int v16.1), (3, .int v16.2.1), (4, .int v16.2.2.1)]) (fun v16 => (wReading b0 cI ((25 : Int32) - r1) v16.2.2.2.1 v16.2.2.2.2.1 v16.2.2.2.2.2)) 1000 ((0 : Int32), a1, (0 : Int32), (0 : Int32), (0 : Int32), (0 : Int32)) hf (fun v16 hf => by simp only [f_X3_reads_33] at hf; exact absurd hf (by simp)) (fun n ih17 v16 hf => ?_)
  replace hf := (f_X3_reads_33_s _ _ _ _ _ _ _ _).symm.trans hf
  refine s_iload C 35 3 rfl dX3_reads_33 rfl ?_
  refine s_bipush C 37 rfl dX3_reads_35 bp_25 ?_
  refine s_icmp_ge C 136 40 rfl dX3_reads_37 rfl (fun hc30 => ?_) (fun hc30 => ?_)
  · replace hf := ite_t hc30 hf
    obtain rfl := Option.some.inj hf
    exact s_vret C (fun i => i) hr hlk rfl rfl dX3_reads_136
  · replace hf := ite_f hc30 hf
    refine s_iload_n C 41 2 rfl dX3_reads_40 rfl ?_
    refine s_if_eq C 136 44 rfl dX3_reads_41 rfl (fun hc29 => ?_) (fun hc29 => ?_)
    · replace hf := ite_t hc29 hf
      obtain rfl := Option.some.inj hf
      exact s_vret C (fun i => i) hr hlk rfl rfl dX3_reads_136
    · replace hf := ite_f hc29 hf
      refine s_iload_n C 45 2 rfl dX3_reads_44 rfl ?_
      refine s_iload_n C 46 2 rfl dX3_reads_45 rfl ?_
      refine s_ineg C 47 rfl dX3_reads_46 ?_
      refine s_iand C 48 rfl dX3_reads_47 ?_
      refine s_iload_n C 49 2 rfl dX3_reads_48 rfl ?_
      obtain ⟨r18, q19, hf⟩ := bn_s hf
      refine s_callS0 (host := "") (rest := []) C 52 (c_X2_heapOf l D cI adK adV (v16.2.1 &&& (-v16.2.1)) v16.2.1 r18 q19) (gS uu529 uu500 uu14 uu501) hd_X2_heapOf rfl ⟨rfl, rfl⟩ ⟨Nat.le_of_ble_eq_true rfl, Nat.le_of_ble_eq_true rfl⟩ ⟨Nat.le_of_ble_eq_true rfl, Nat.le_of_ble_eq_true rfl⟩ rfl (Nat.le_of_ble_eq_true rfl) rfl dX3_reads_49 ?_
      refine s_istore (lv1 := [(5, .int r18), (0, .ref b0), (2, .int v16.1), (3, .int v16.2.1), (4, .int v16.2.2.1)]) C 54 5 rfl dX3_reads_52 (Nat.le_of_ble_eq_true rfl) rfl ?_
      refine s_iload C 56 0 rfl dX3_reads_54 rfl ?_
      obtain ⟨r20, q21, hf⟩ := bn_s hf
      refine s_callS0 (host := "") (rest := []) C 59 (c_J6_bitCount_0f7a4 l D cI adK adV r18 r20 q21) (gS uu527 uu489 uu15 uu490) hd_J6_bitCount_0f7a4 rfl ⟨rfl, rfl⟩ ⟨Nat.le_of_ble_eq_true rfl, Nat.le_of_ble_eq_true rfl⟩ ⟨Nat.le_of_ble_eq_true rfl, Nat.le_of_ble_eq_true rfl⟩ rfl (Nat.le_of_ble_eq_true rfl) rfl dX3_reads_56 ?_
      refine s_istore (lv1 := [(6, .int r20), (5, .int r18), (0, .ref b0), (2, .int v16.1), (3, .int v16.2.1), (4, .int v16.2.2.1)]) C 61 6 rfl dX3_reads_59 (Nat.le_of_ble_eq_true rfl) rfl ?_
      refine s_aload_n C 62 2 rfl dX3_reads_61 rfl ?_
      refine s_dup C 63 rfl dX3_reads_62 rfl ?_
      refine s_get (C1 := RX3) (T := TX3) (N := 4) (ci := 2) C 66 0 1 uX3 rfl rfl (Nat.le_of_ble_eq_true rfl) uu76 rfl rfl rfl dX3_reads_63 ?_
      refine s_iconst C 67 rfl dX3_reads_66 ic_1 ?_
      refine s_iadd C 68 rfl dX3_reads_67 ?_
      refine s_put (C1 := RX3) (T := TX3) (N := 4) (ci := 2) (ty := tyX3 1) (ws1 := (wReading b0 cI ((25 : Int32) - r1) (v16.2.2.2.1 + (1 : Int32)) v16.2.2.2.2.1 v16.2.2.2.2.2)) C 71 0 1 uX3 tyX3 tyX3_ok nmX3 rfl rfl (Nat.le_of_ble_eq_true rfl) uu76 rfl rfl (tyX3_ok 1 (Nat.le_of_ble_eq_true rfl)) ⟨rfl, rfl⟩ (Nat.le_of_ble_eq_true rfl) rfl rfl dX3_reads_68 ?_
      refine s_aload_n C 72 2 rfl dX3_reads_71 rfl ?_
      refine s_get (C1 := RX3) (T := TX3) (N := 4) (ci := 2) C 75 0 1 uX3 rfl rfl (Nat.le_of_ble_eq_true rfl) uu76 rfl rfl rfl dX3_reads_72 ?_
      refine s_iconst C 76 rfl dX3_reads_75 ic_1 ?_
      refine s_jn (α := Int32) 94 (fun j22 => [(0, .ref b0), (2, .int v16.1), (3, .int v16.2.1), (4, .int v16.2.2.1), (5, .int r18), (6, .int r20)]) (fun j22 => []) (fun j22 => (wReading b0 cI ((25 : Int32) - r1) (v16.2.2.2.1 + (1 : Int32)) j22 v16.2.2.2.2.2)) hf (fun j22 hf => ?_) (fun hj hf => ?_)
      · refine s_iload C 96 5 rfl dX3_reads_94 rfl ?_
        refine s_iload_n C 97 1 rfl dX3_reads_96 rfl ?_
        refine s_jn (α := Int32) 116 (fun j25 => [(0, .ref b0), (2, .int v16.1), (3, .int v16.2.1), (4, .int v16.2.2.1), (5, .int r18), (6, .int r20)]) (fun j25 => []) (fun j25 => (wReading b0 cI ((25 : Int32) - r1) (v16.2.2.2.1 + (1 : Int32)) j22 j25)) hf (fun j25 hf => ?_) (fun hj hf => ?_)
        · refine s_iload_n C 117 1 rfl dX3_reads_116 rfl ?_
          refine s_iload C 119 5 rfl dX3_reads_117 rfl ?_
          refine s_mmax C 122 uu531 uu310 uu11 uu311 ⟨Nat.le_of_ble_eq_true rfl, Nat.le_of_ble_eq_true rfl, Nat.le_of_ble_eq_true rfl, Nat.le_of_ble_eq_true rfl⟩ rfl dX3_reads_119 ?_
          refine s_istore_n (lv1 := [(2, .int (jmax v16.1 r20)), (0, .ref b0), (3, .int v16.2.1), (4, .int v16.2.2.1), (5, .int r18), (6, .int r20)]) C 123 2 rfl dX3_reads_122 rfl (Nat.le_of_ble_eq_true rfl) rfl ?_
          refine s_iload_n C 124 2 rfl dX3_reads_123 rfl ?_
          refine s_iload C 126 4 rfl dX3_reads_124 rfl ?_
          refine s_iconst C 127 rfl dX3_reads_126 ic_m1 ?_
          refine s_ixor C 128 rfl dX3_reads_127 ?_
          refine s_iand C 129 rfl dX3_reads_128 ?_
          refine s_istore_n (lv1 := [(3, .int (v16.2.1 &&& (r18 ^^^ (-1 : Int32)))), (2, .int (jmax v16.1 r20)), (0, .ref b0), (4, .int v16.2.2.1), (5, .int r18), (6, .int r20)]) C 130 3 rfl dX3_reads_129 rfl (Nat.le_of_ble_eq_true rfl) rfl ?_
          refine s_iinc (lv1 := [(4, .int (v16.2.2.1 + (1 : Int32))), (3, .int (v16.2.1 &&& (r18 ^^^ (-1 : Int32)))), (2, .int (jmax v16.1 r20)), (0, .ref b0), (5, .int r18), (6, .int r20)]) C 133 4 3 rfl dX3_reads_130 rfl ic_1 (Nat.le_of_ble_eq_true rfl) rfl ?_
          refine s_goto C 33 dX3_reads_133 rfl ?_
          exact s_lv [3, 2, 1, 0] rfl (ih17 ((jmax v16.1 r20, v16.2.1 &&& (r18 ^^^ (-1 : Int32)), v16.2.2.1 + (1 : Int32), v16.2.2.2.1 + (1 : Int32), j22, j25) : Int32 × Int32 × Int32 × Int32 × Int32 × Int32) hf)
        · refine s_icmp_lt C 116 100 rfl dX3_reads_97 rfl (fun hc28 => ?_) (fun hc28 => ?_)
          · replace hf := jn_t hc28 hf
            replace hf := jn_i hf
            exact s_lv [0, 1, 2, 3, 4, 5] rfl (hj (v16.2.2.2.2.2 : Int32) hf)
          · replace hf := jn_f hc28 hf
            refine s_aload_n C 101 0 rfl dX3_reads_100 rfl ?_
            refine s_iload C 103 5 rfl dX3_reads_101 rfl ?_
            refine s_iload_n C 104 1 rfl dX3_reads_103 rfl ?_
            replace hf := jn_jn hf
            refine s_jn (α := Int32) 113 (fun j26 => [(0, .ref b0), (2, .int v16.1), (3, .int v16.2.1), (4, .int v16.2.2.1), (5, .int r18), (6, .int r20)]) (fun j26 => [.int j26, .ref b0]) (fun j26 => (wReading b0 cI ((25 : Int32) - r1) (v16.2.2.2.1 + (1 : Int32)) j22 v16.2.2.2.2.2)) hf (fun j26 hf => ?_) (fun hj hf => ?_)
            · refine s_put (C1 := RX3) (T := TX3) (N := 4) (ci := 2) (ty := tyX3 3) (ws1 := (wReading b0 cI ((25 : Int32) - r1) (v16.2.2.2.1 + (1 : Int32)) j22 j26)) C 116 0 3 uX3 tyX3 tyX3_ok nmX3 rfl rfl (Nat.le_of_ble_eq_true rfl) uu84 rfl rfl (tyX3_ok 3 (Nat.le_of_ble_eq_true rfl)) ⟨rfl, rfl⟩ (Nat.le_of_ble_eq_true rfl) rfl rfl dX3_reads_113 ?_
              replace hf := jn_i hf
              exact s_lv [0, 1, 2, 3, 4, 5] rfl (hj (j26 : Int32) hf)
            · refine s_icmp_le C 112 107 rfl dX3_reads_104 rfl (fun hc27 => ?_) (fun hc27 => ?_)
              · replace hf := jn_t hc27 hf
                refine s_iconst C 113 rfl dX3_reads_112 ic_0 ?_
                replace hf := jn_i hf
                exact s_lv [0, 1, 2, 3, 4, 5] rfl (hj ((0 : Int32) : Int32) hf)
              · replace hf := jn_f hc27 hf
                refine s_iload C 109 4 rfl dX3_reads_107 rfl ?_
                refine s_goto C 113 dX3_reads_109 rfl ?_
                replace hf := jn_i hf
                exact s_lv [0, 1, 2, 3, 4, 5] rfl (hj (r18 : Int32) hf)
      · refine s_icmp_eq C 88 79 rfl dX3_reads_76 rfl (fun hc24 => ?_) (fun hc24 => ?_)
        · replace hf := jn_t hc24 hf
          refine s_aload_n C 89 2 rfl dX3_reads_88 rfl ?_
          refine s_iload C 91 0 rfl dX3_reads_89 rfl ?_
          refine s_put (C1 := RX3) (T := TX3) (N := 4) (ci := 2) (ty := tyX3 2) (ws1 := (wReading b0 cI ((25 : Int32) - r1) (v16.2.2.2.1 + (1 : Int32)) r20 v16.2.2.2.2.2)) C 94 0 2 uX3 tyX3 tyX3_ok nmX3 rfl rfl (Nat.le_of_ble_eq_true rfl) uu80 rfl rfl (tyX3_ok 2 (Nat.le_of_ble_eq_true rfl)) ⟨rfl, rfl⟩ (Nat.le_of_ble_eq_true rfl) rfl rfl dX3_reads_91 ?_
          replace hf := jn_i hf
          exact s_lv [2, 3, 4, 5, 1, 0] rfl (hj (r20 : Int32) hf)
        · replace hf := jn_f hc24 hf
          refine s_iload C 81 0 rfl dX3_reads_79 rfl ?_
          refine s_aload_n C 82 2 rfl dX3_reads_81 rfl ?_
          refine s_get (C1 := RX3) (T := TX3) (N := 4) (ci := 2) C 85 0 2 uX3 rfl rfl (Nat.le_of_ble_eq_true rfl) uu80 rfl rfl rfl dX3_reads_82 ?_
          refine s_icmp_ge C 94 88 rfl dX3_reads_85 rfl (fun hc23 => ?_) (fun hc23 => ?_)
          · replace hf := jn_t hc23 hf
            replace hf := jn_i hf
            exact s_lv [2, 3, 4, 5, 1, 0] rfl (hj (v16.2.2.2.2.1 : Int32) hf)
          · replace hf := jn_f hc23 hf
            refine s_aload_n C 89 2 rfl dX3_reads_88 rfl ?_
            refine s_iload C 91 0 rfl dX3_reads_89 rfl ?_
            refine s_put (C1 := RX3) (T := TX3) (N := 4) (ci := 2) (ty := tyX3 2) (ws1 := (wReading b0 cI ((25 : Int32) - r1) (v16.2.2.2.1 + (1 : Int32)) r20 v16.2.2.2.2.2)) C 94 0 2 uX3 tyX3 tyX3_ok nmX3 rfl rfl (Nat.le_of_ble_eq_true rfl) uu80 rfl rfl (tyX3_ok 2 (Nat.le_of_ble_eq_true rfl)) ⟨rfl, rfl⟩ (Nat.le_of_ble_eq_true rfl) rfl rfl dX3_reads_91 ?_
            replace hf := jn_i hf
            exact s_lv [2, 3, 4, 5, 1, 0] rfl (hj (r20 : Int32) hf)

theorem sw_out_X3_shareBy_71 {x : Int32} (h0 : ¬ x = (0 : Int32)) (h1 : ¬ x = (1 : Int32)) (h2 : ¬ x = (2 : Int32)) (h3 : ¬ x = (3 : Int32)) (h4 : ¬ x = (4 : Int32)) (h5 : ¬ x = (5 : Int32)) : x.toInt < 0 ∨ 5 < x.toInt := by
  have e0 := ne_toInt h0
  rw [show ((0 : Int32) : Int32).toInt = 0 from by decide] at e0
  have e1 := ne_toInt h1
  rw [show ((1 : Int32) : Int32).toInt = 1 from by decide] at e1
  have e2 := ne_toInt h2
  rw [show ((2 : Int32) : Int32).toInt = 2 from by decide] at e2
  have e3 := ne_toInt h3
  rw [show ((3 : Int32) : Int32).toInt = 3 from by decide] at e3
  have e4 := ne_toInt h4
  rw [show ((4 : Int32) : Int32).toInt = 4 from by decide] at e4
  have e5 := ne_toInt h5
  rw [show ((5 : Int32) : Int32).toInt = 5 from by decide] at e5
  omega
theorem hd_X3_shareBy : yX3_shareBy.cls = RX3 ∧ yX3_shareBy.cls ≠ "java/lang/invoke/MethodHandle" ∧ yX3_shareBy.cls ≠ "java/lang/invoke/VarHandle" ∧ (parseMethodDescriptor yX3_shareBy.desc).map (fun d => d.parameters.length) = some 2 := by decide +kernel
set_option maxHeartbeats 4000000 in
set_option maxRecDepth 100000 in
theorem c_X3_shareBy (l : Launch) (D : va_G) (cI : ClassId) (adK adV : Nat → Nat) (b0 : Nat) (r_gone : Int32) (r_heaps : Int32) (r_fewestCells : Int32) (r_deed : Int32) (a1 : Int32) (a2 : Int32) (o : Int32) (hf : f_X3_shareBy r_gone r_heaps r_deed a1 a2 = some o) : Ct l D cI adK adV yX3_shareBy (wy yX3_shareBy cX3_shareBy 6 (some .int)) { frames := 1, cells := 0, slots := 0, locals := 24 } 0 0 [.ref b0, .int a1, .int a2] (wReading b0 cI r_gone r_heaps r_fewestCells r_deed) (fun _ => (wReading b0 cI r_gone r_heaps r_fewestCells r_deed)) (some (.int o)) := by
  refine Ct.of (cc := cX3_shareBy) (nL := 6) (ret := (some .int)) (own := RX3) (by decide) (Nat.le_of_ble_eq_true rfl) rfl ?_
  intro p e s m args below meth c A C hr hlk hnm
  refine s_lv (lv1 := [(0, .ref b0), (1, .int a1), (2, .int a2)]) [0, 1, 2] rfl ?_
  unfold f_X3_shareBy at hf
  refine s_aload_n C 1 0 rfl dX3_shareBy_0 rfl ?_
  obtain ⟨r1, q2, hf⟩ := bn_s hf
  refine s_callW (T := TX3) (N := 4) (ci := 2) (q0 := 0) (rest := []) C 4 (c_X3_isInChancery l D cI adK adV b0 r_gone r_heaps r_fewestCells r_deed r1 q2) (gV uu544 uu546 uu547 uu3 uu548) hd_X3_isInChancery rfl ⟨rfl, rfl⟩ ⟨Nat.le_of_ble_eq_true rfl, Nat.le_of_ble_eq_true rfl⟩ ⟨Nat.le_of_ble_eq_true rfl, Nat.le_of_ble_eq_true rfl⟩ rfl rfl rfl (Nat.le_of_ble_eq_true rfl) rfl dX3_shareBy_1 (fun _ => ?_)
  refine s_if_eq C 18 7 rfl dX3_shareBy_4 rfl (fun hc18 => ?_) (fun hc18 => ?_)
  · replace hf := ite_t hc18 hf
    refine s_aload_n C 19 0 rfl dX3_shareBy_18 rfl ?_
    refine s_get (C1 := RX3) (T := TX3) (N := 4) (ci := 2) C 22 0 3 uX3 rfl rfl (Nat.le_of_ble_eq_true rfl) uu84 rfl rfl rfl dX3_shareBy_19 ?_
    refine s_ldc C 24 rfl dX3_shareBy_22 uu550 ?_
    refine s_iload_n C 25 2 rfl dX3_shareBy_24 rfl ?_
    refine s_iconst C 26 rfl dX3_shareBy_25 ic_5 ?_
    refine s_irem C 27 rfl dX3_shareBy_26 (by decide) ?_
    refine s_ishl C 28 rfl dX3_shareBy_27 ?_
    refine s_iand C 29 rfl dX3_shareBy_28 ?_
    obtain ⟨r3, q4, hf⟩ := bn_s hf
    refine s_callS0 (host := "") (rest := []) C 32 (c_J6_bitCount_0f7a4 l D cI adK adV (r_deed &&& (jshl (1082401 : Int32) (jrem a2 (5 : Int32)))) r3 q4) (gS uu527 uu489 uu15 uu490) hd_J6_bitCount_0f7a4 rfl ⟨rfl, rfl⟩ ⟨Nat.le_of_ble_eq_true rfl, Nat.le_of_ble_eq_true rfl⟩ ⟨Nat.le_of_ble_eq_true rfl, Nat.le_of_ble_eq_true rfl⟩ rfl (Nat.le_of_ble_eq_true rfl) rfl dX3_shareBy_29 ?_
    refine s_istore_n (lv1 := [(3, .int r3), (0, .ref b0), (1, .int a1), (2, .int a2)]) C 33 3 rfl dX3_shareBy_32 rfl (Nat.le_of_ble_eq_true rfl) rfl ?_
    refine s_iload_n C 34 0 rfl dX3_shareBy_33 rfl ?_
    refine s_aload_n C 35 1 rfl dX3_shareBy_34 rfl ?_
    refine s_get (C1 := RX3) (T := TX3) (N := 4) (ci := 2) C 38 0 3 uX3 rfl rfl (Nat.le_of_ble_eq_true rfl) uu84 rfl rfl rfl dX3_shareBy_35 ?_
    refine s_iconst C 39 rfl dX3_shareBy_38 ic_4 ?_
    refine s_iand C 40 rfl dX3_shareBy_39 ?_
    refine s_jn (α := Int32) 48 (fun j5 => [(0, .ref b0), (1, .int a1), (2, .int a2), (3, .int r3)]) (fun j5 => [.int j5, .int r3]) (fun j5 => (wReading b0 cI r_gone r_heaps r_fewestCells r_deed)) hf (fun j5 hf => ?_) (fun hj hf => ?_)
    · refine s_iadd C 49 rfl dX3_shareBy_48 ?_
      refine s_istore (lv1 := [(4, .int (r3 + j5)), (0, .ref b0), (1, .int a1), (2, .int a2), (3, .int r3)]) C 51 4 rfl dX3_shareBy_49 (Nat.le_of_ble_eq_true rfl) rfl ?_
      refine s_iload_n C 52 4 rfl dX3_shareBy_51 rfl ?_
      refine s_iconst C 53 rfl dX3_shareBy_52 ic_2 ?_
      refine s_idiv C 54 rfl dX3_shareBy_53 (by decide) ?_
      refine s_iconst C 55 rfl dX3_shareBy_54 ic_2 ?_
      refine s_aload_n C 56 1 rfl dX3_shareBy_55 rfl ?_
      refine s_get (C1 := RX3) (T := TX3) (N := 4) (ci := 2) C 59 0 3 uX3 rfl rfl (Nat.le_of_ble_eq_true rfl) uu84 rfl rfl rfl dX3_shareBy_56 ?_
      refine s_sipush C 62 rfl dX3_shareBy_59 sp_14336 ?_
      refine s_iand C 63 rfl dX3_shareBy_62 ?_
      obtain ⟨r7, q8, hf⟩ := bn_s hf
      refine s_callS0 (host := "") (rest := [.int (2 : Int32), .int (r3 / (2 : Int32))]) C 66 (c_J6_bitCount_0f7a4 l D cI adK adV (r_deed &&& (14336 : Int32)) r7 q8) (gS uu527 uu489 uu15 uu490) hd_J6_bitCount_0f7a4 rfl ⟨rfl, rfl⟩ ⟨Nat.le_of_ble_eq_true rfl, Nat.le_of_ble_eq_true rfl⟩ ⟨Nat.le_of_ble_eq_true rfl, Nat.le_of_ble_eq_true rfl⟩ rfl (Nat.le_of_ble_eq_true rfl) rfl dX3_shareBy_63 ?_
      refine s_imul C 67 rfl dX3_shareBy_66 ?_
      refine s_iadd C 68 rfl dX3_shareBy_67 ?_
      refine s_istore (lv1 := [(5, .int ((r3 / (2 : Int32)) + ((2 : Int32) * r7))), (4, .int (r3 + j5)), (0, .ref b0), (1, .int a1), (2, .int a2), (3, .int r3)]) C 70 5 rfl dX3_shareBy_68 (Nat.le_of_ble_eq_true rfl) rfl ?_
      refine s_iload_n C 71 3 rfl dX3_shareBy_70 rfl ?_
      by_cases hc9 : a1 = (0 : Int32)
      · replace hf := ite_t hc9 hf
        refine s_tableIn (off := 37) C 108 dX3_shareBy_71 (by rw [hc9]; decide) (by rw [hc9]; decide) (by rw [hc9]; rfl) rfl ?_
        refine s_iload_n C 109 5 rfl dX3_shareBy_108 rfl ?_
        obtain rfl := Option.some.inj hf
        exact s_iret C (fun i => i) hr hlk rfl rfl dX3_shareBy_109
      · replace hf := ite_f hc9 hf
        by_cases hc10 : a1 = (1 : Int32)
        · replace hf := ite_t hc10 hf
          refine s_tableIn (off := 39) C 110 dX3_shareBy_71 (by rw [hc10]; decide) (by rw [hc10]; decide) (by rw [hc10]; rfl) rfl ?_
          refine s_iload C 112 1 rfl dX3_shareBy_110 rfl ?_
          obtain rfl := Option.some.inj hf
          exact s_iret C (fun i => i) hr hlk rfl rfl dX3_shareBy_112
        · replace hf := ite_f hc10 hf
          by_cases hc11 : a1 = (2 : Int32)
          · replace hf := ite_t hc11 hf
            refine s_tableIn (off := 42) C 113 dX3_shareBy_71 (by rw [hc11]; decide) (by rw [hc11]; decide) (by rw [hc11]; rfl) rfl ?_
            refine s_iload C 115 0 rfl dX3_shareBy_113 rfl ?_
            obtain rfl := Option.some.inj hf
            exact s_iret C (fun i => i) hr hlk rfl rfl dX3_shareBy_115
          · replace hf := ite_f hc11 hf
            by_cases hc12 : a1 = (3 : Int32)
            · replace hf := ite_t hc12 hf
              refine s_tableIn (off := 45) C 116 dX3_shareBy_71 (by rw [hc12]; decide) (by rw [hc12]; decide) (by rw [hc12]; rfl) rfl ?_
              refine s_iload C 118 1 rfl dX3_shareBy_116 rfl ?_
              refine s_iconst C 119 rfl dX3_shareBy_118 ic_3 ?_
              refine s_idiv C 120 rfl dX3_shareBy_119 (by decide) ?_
              obtain rfl := Option.some.inj hf
              exact s_iret C (fun i => i) hr hlk rfl rfl dX3_shareBy_120
            · replace hf := ite_f hc12 hf
              by_cases hc13 : a1 = (4 : Int32)
              · replace hf := ite_t hc13 hf
                refine s_tableIn (off := 50) C 121 dX3_shareBy_71 (by rw [hc13]; decide) (by rw [hc13]; decide) (by rw [hc13]; rfl) rfl ?_
                refine s_iconst C 122 rfl dX3_shareBy_121 ic_0 ?_
                refine s_aload_n C 123 2 rfl dX3_shareBy_122 rfl ?_
                refine s_get (C1 := RX3) (T := TX3) (N := 4) (ci := 2) C 126 0 0 uX3 rfl rfl (Nat.le_of_ble_eq_true rfl) uu74 rfl rfl rfl dX3_shareBy_123 ?_
                refine s_iload_n C 127 4 rfl dX3_shareBy_126 rfl ?_
                refine s_isub C 128 rfl dX3_shareBy_127 ?_
                refine s_mmax C 131 uu531 uu310 uu11 uu311 ⟨Nat.le_of_ble_eq_true rfl, Nat.le_of_ble_eq_true rfl, Nat.le_of_ble_eq_true rfl, Nat.le_of_ble_eq_true rfl⟩ rfl dX3_shareBy_128 ?_
                obtain rfl := Option.some.inj hf
                exact s_iret C (fun i => i) hr hlk rfl rfl dX3_shareBy_131
              · replace hf := ite_f hc13 hf
                by_cases hc14 : a1 = (5 : Int32)
                · replace hf := ite_t hc14 hf
                  refine s_tableIn (off := 61) C 132 dX3_shareBy_71 (by rw [hc14]; decide) (by rw [hc14]; decide) (by rw [hc14]; rfl) rfl ?_
                  refine s_iload C 134 0 rfl dX3_shareBy_132 rfl ?_
                  refine s_aload_n C 135 2 rfl dX3_shareBy_134 rfl ?_
                  refine s_get (C1 := RX3) (T := TX3) (N := 4) (ci := 2) C 138 0 1 uX3 rfl rfl (Nat.le_of_ble_eq_true rfl) uu76 rfl rfl rfl dX3_shareBy_135 ?_
                  refine s_iadd C 139 rfl dX3_shareBy_138 ?_
                  refine s_iconst C 140 rfl dX3_shareBy_139 ic_1 ?_
                  refine s_isub C 141 rfl dX3_shareBy_140 ?_
                  obtain rfl := Option.some.inj hf
                  exact s_iret C (fun i => i) hr hlk rfl rfl dX3_shareBy_141
                · replace hf := ite_f hc14 hf
                  refine s_tableOut C 142 dX3_shareBy_71 (sw_out_X3_shareBy_71 hc9 hc10 hc11 hc12 hc13 hc14) rfl ?_
                  refine s_iconst C 143 rfl dX3_shareBy_142 ic_0 ?_
                  obtain rfl := Option.some.inj hf
                  exact s_iret C (fun i => i) hr hlk rfl rfl dX3_shareBy_143
    · refine s_if_eq C 47 43 rfl dX3_shareBy_40 rfl (fun hc6 => ?_) (fun hc6 => ?_)
      · replace hf := jn_t hc6 hf
        refine s_iconst C 48 rfl dX3_shareBy_47 ic_0 ?_
        replace hf := jn_i hf
        exact s_lv [1, 2, 3, 0] rfl (hj ((0 : Int32) : Int32) hf)
      · replace hf := jn_f hc6 hf
        refine s_iconst C 44 rfl dX3_shareBy_43 ic_5 ?_
        refine s_goto C 48 dX3_shareBy_44 rfl ?_
        replace hf := jn_i hf
        exact s_lv [1, 2, 3, 0] rfl (hj ((5 : Int32) : Int32) hf)
  · replace hf := ite_f hc18 hf
    refine s_iload_n C 8 1 rfl dX3_shareBy_7 rfl ?_
    refine s_iconst C 9 rfl dX3_shareBy_8 ic_3 ?_
    refine s_icmp_ne C 16 12 rfl dX3_shareBy_9 rfl (fun hc17 => ?_) (fun hc17 => ?_)
    · replace hf := ite_f hc17 hf
      refine s_iconst C 17 rfl dX3_shareBy_16 ic_0 ?_
      obtain rfl := Option.some.inj hf
      exact s_iret C (fun i => i) hr hlk rfl rfl dX3_shareBy_17
    · replace hf := ite_t hc17 hf
      refine s_iload_n C 13 2 rfl dX3_shareBy_12 rfl ?_
      refine s_goto C 17 dX3_shareBy_13 rfl ?_
      obtain rfl := Option.some.inj hf
      exact s_iret C (fun i => i) hr hlk rfl rfl dX3_shareBy_17


theorem hd_X1_goesOn : yX1_goesOn.cls = RX1 ∧ yX1_goesOn.cls ≠ "java/lang/invoke/MethodHandle" ∧ yX1_goesOn.cls ≠ "java/lang/invoke/VarHandle" ∧ (parseMethodDescriptor yX1_goesOn.desc).map (fun d => d.parameters.length) = some 3 := by decide +kernel
set_option maxHeartbeats 4000000 in
set_option maxRecDepth 100000 in
theorem c_X1_goesOn (l : Launch) (D : va_G) (cI : ClassId) (adK adV : Nat → Nat) (b0 : Nat) (kc : Nat → Nat) (c_ways : (Nat → Int32)) (c_fewest : (Nat → Int32)) (c_nextWays : (Nat → Int32)) (c_nextFewest : (Nat → Int32)) (a1 : Int32) (a2 : Int32) (a3 : Int32) (o : (Nat → Int32) × (Nat → Int32)) (hf : f_X1_goesOn c_ways c_fewest c_nextWays c_nextFewest a1 a2 a3 = some o) : Ct l D cI adK adV yX1_goesOn (wy yX1_goesOn cX1_goesOn 7 none) { frames := 2, cells := 0, slots := 0, locals := 47 } 0 0 [.ref b0, .int a1, .int a2, .int a3] (wCover b0 kc cI c_ways c_fewest c_nextWays c_nextFewest) (fun _ => (wCover b0 kc cI c_ways c_fewest o.1 o.2)) (none) := by
  refine Ct.of (cc := cX1_goesOn) (nL := 7) (ret := none) (own := RX1) (by decide) (Nat.le_of_ble_eq_true rfl) rfl ?_
  intro p e s m args below meth c A C hr hlk hnm
  refine s_lv (lv1 := [(0, .ref b0), (1, .int a1), (2, .int a2), (3, .int a3)]) [0, 1, 2, 3] rfl ?_
  unfold f_X1_goesOn at hf
  refine s_iload_n C 1 1 rfl dX1_goesOn_0 rfl ?_
  refine s_iconst C 2 rfl dX1_goesOn_1 ic_1 ?_
  refine s_iand C 3 rfl dX1_goesOn_2 ?_
  refine s_if_ne C 14 6 rfl dX1_goesOn_3 rfl (fun hc34 => ?_) (fun hc34 => ?_)
  · replace hf := ite_f hc34 hf
    refine s_aload_n C 15 0 rfl dX1_goesOn_14 rfl ?_
    refine s_iload_n C 16 1 rfl dX1_goesOn_15 rfl ?_
    refine s_iconst C 17 rfl dX1_goesOn_16 ic_1 ?_
    refine s_ishr C 18 rfl dX1_goesOn_17 ?_
    refine s_aload_n C 19 0 rfl dX1_goesOn_18 rfl ?_
    refine s_get (C1 := RX1) (T := TX1) (N := 4) (ci := 1) C 22 0 0 uX1 rfl rfl (Nat.le_of_ble_eq_true rfl) uu101 rfl rfl rfl dX1_goesOn_19 ?_
    refine s_iload_n C 23 1 rfl dX1_goesOn_22 rfl ?_
    obtain ⟨h1, hf⟩ := ck_in hf
    refine s_iald C 24 1 rfl h1 rfl dX1_goesOn_23 ?_
    refine s_aload_n C 25 0 rfl dX1_goesOn_24 rfl ?_
    refine s_get (C1 := RX1) (T := TX1) (N := 4) (ci := 1) C 28 0 1 uX1 rfl rfl (Nat.le_of_ble_eq_true rfl) uu103 rfl rfl rfl dX1_goesOn_25 ?_
    refine s_iload_n C 29 1 rfl dX1_goesOn_28 rfl ?_
    obtain ⟨h2, hf⟩ := ck_in hf
    refine s_iald C 30 2 rfl h2 rfl dX1_goesOn_29 ?_
    obtain ⟨r3, q4, hf⟩ := bn_s hf
    refine s_callW (T := TX1) (N := 4) (ci := 1) (q0 := 0) (rest := []) C 33 (c_X1_comesTo l D cI adK adV b0 kc c_ways c_fewest c_nextWays c_nextFewest (jshr a1 (1 : Int32)) (c_ways a1.toNatClampNeg) (c_fewest a1.toNatClampNeg) r3 q4) (gV uu681 uu683 uu1554 uu4 uu684) hd_X1_comesTo rfl ⟨rfl, rfl⟩ ⟨Nat.le_of_ble_eq_true rfl, Nat.le_of_ble_eq_true rfl⟩ ⟨Nat.le_of_ble_eq_true rfl, Nat.le_of_ble_eq_true rfl⟩ rfl rfl rfl (Nat.le_of_ble_eq_true rfl) rfl dX1_goesOn_30 (fun _ => ?_)
    obtain rfl := Option.some.inj hf
    exact s_vret C kc hr hlk rfl rfl dX1_goesOn_33
  · replace hf := ite_t hc34 hf
    refine s_iload_n C 7 3 rfl dX1_goesOn_6 rfl ?_
    refine s_iload_n C 8 2 rfl dX1_goesOn_7 rfl ?_
    refine s_ishr C 9 rfl dX1_goesOn_8 ?_
    refine s_iconst C 10 rfl dX1_goesOn_9 ic_1 ?_
    refine s_iand C 11 rfl dX1_goesOn_10 ?_
    refine s_if_eq C 34 14 rfl dX1_goesOn_11 rfl (fun hc33 => ?_) (fun hc33 => ?_)
    · replace hf := ite_t hc33 hf
      refine s_iconst C 35 rfl dX1_goesOn_34 ic_0 ?_
      refine s_istore (lv1 := [(4, .int (0 : Int32)), (0, .ref b0), (1, .int a1), (2, .int a2), (3, .int a3)]) C 37 4 rfl dX1_goesOn_35 (Nat.le_of_ble_eq_true rfl) rfl ?_
      refine s_lv (lv1 := [(0, .ref b0), (1, .int a1), (2, .int a2), (3, .int a3), (4, .int (0 : Int32))]) [1, 2, 3, 4, 0] rfl ?_
      refine s_loop (α := Int32 × (Nat → Int32) × (Nat → Int32)) (fun n v16 => f_X1_goesOn_37 a1 a2 a3 c_ways c_fewest n v16.1 v16.2.1 v16.2.2) 37 (fun v16 => [(0, .ref b0), (1, .int a1), (2, .int a2), (3, .int a3), (4, .int v16.1)]) (fun v16 => (wCover b0 kc cI c_ways c_fewest v16.2.1 v16.2.2)) 1000 ((0 : Int32), c_nextWays, c_nextFewest) hf (fun v16 hf => by simp only [f_X1_goesOn_37] at hf; exact absurd hf (by simp)) (fun n ih17 v16 hf => ?_)
      replace hf := (f_X1_goesOn_37_s _ _ _ _ _ _ _ _ _).symm.trans hf
      refine s_iload C 39 4 rfl dX1_goesOn_37 rfl ?_
      refine s_iconst C 40 rfl dX1_goesOn_39 ic_4 ?_
      refine s_icmp_ge C 109 43 rfl dX1_goesOn_40 rfl (fun hc28 => ?_) (fun hc28 => ?_)
      · replace hf := ite_t hc28 hf
        obtain rfl := Option.some.inj hf
        exact s_vret C kc hr hlk rfl rfl dX1_goesOn_109
      · replace hf := ite_f hc28 hf
        refine s_iload C 45 4 rfl dX1_goesOn_43 rfl ?_
        refine s_iload_n C 46 2 rfl dX1_goesOn_45 rfl ?_
        obtain ⟨r18, q19, hf⟩ := bn_s hf
        refine s_callS0 (host := "") (rest := []) C 49 (c_X2_cellsOf l D cI adK adV v16.1 a2 r18 q19) (gS uu700 uu428 uu14 uu429) hd_X2_cellsOf rfl ⟨rfl, rfl⟩ ⟨Nat.le_of_ble_eq_true rfl, Nat.le_of_ble_eq_true rfl⟩ ⟨Nat.le_of_ble_eq_true rfl, Nat.le_of_ble_eq_true rfl⟩ rfl (Nat.le_of_ble_eq_true rfl) rfl dX1_goesOn_46 ?_
        refine s_istore (lv1 := [(5, .int r18), (0, .ref b0), (1, .int a1), (2, .int a2), (3, .int a3), (4, .int v16.1)]) C 51 5 rfl dX1_goesOn_49 (Nat.le_of_ble_eq_true rfl) rfl ?_
        refine s_iload C 53 0 rfl dX1_goesOn_51 rfl ?_
        refine s_iload_n C 54 3 rfl dX1_goesOn_53 rfl ?_
        refine s_ishr C 55 rfl dX1_goesOn_54 ?_
        refine s_istore (lv1 := [(6, .int (jshr r18 a2)), (5, .int r18), (0, .ref b0), (1, .int a1), (2, .int a2), (3, .int a3), (4, .int v16.1)]) C 57 6 rfl dX1_goesOn_55 (Nat.le_of_ble_eq_true rfl) rfl ?_
        refine s_iload C 59 1 rfl dX1_goesOn_57 rfl ?_
        refine s_bn (α := (Nat → Int32) × (Nat → Int32)) 103 (fun j20 => [(0, .ref b0), (1, .int a1), (2, .int a2), (3, .int a3), (4, .int v16.1)]) (fun j20 => []) (fun j20 => (wCover b0 kc cI c_ways c_fewest j20.2 j20.1)) hf (fun j20 hf => ?_) (fun hj hf => ?_)
        · refine s_iinc (lv1 := [(4, .int (v16.1 + (1 : Int32))), (0, .ref b0), (1, .int a1), (2, .int a2), (3, .int a3)]) C 106 4 4 rfl dX1_goesOn_103 rfl ic_1 (Nat.le_of_ble_eq_true rfl) rfl ?_
          refine s_goto C 37 dX1_goesOn_106 rfl ?_
          exact s_lv [1, 2, 3, 4, 0] rfl (ih17 ((v16.1 + (1 : Int32), j20.2, j20.1) : Int32 × (Nat → Int32) × (Nat → Int32)) hf)
        · refine s_if_eq C 103 62 rfl dX1_goesOn_59 rfl (fun hc27 => ?_) (fun hc27 => ?_)
          · replace hf := bn_t hc27 hf
            replace hf := bn_i hf
            exact s_lv [2, 3, 4, 5, 6] rfl (hj ((v16.2.2, v16.2.1) : (Nat → Int32) × (Nat → Int32)) hf)
          · replace hf := bn_f hc27 hf
            refine s_iload C 64 1 rfl dX1_goesOn_62 rfl ?_
            refine s_iload_n C 65 5 rfl dX1_goesOn_64 rfl ?_
            refine s_iand C 66 rfl dX1_goesOn_65 ?_
            refine s_if_ne C 103 69 rfl dX1_goesOn_66 rfl (fun hc26 => ?_) (fun hc26 => ?_)
            · replace hf := bn_f hc26 hf
              replace hf := bn_i hf
              exact s_lv [2, 3, 4, 5, 6] rfl (hj ((v16.2.2, v16.2.1) : (Nat → Int32) × (Nat → Int32)) hf)
            · replace hf := bn_t hc26 hf
              refine s_iload C 71 0 rfl dX1_goesOn_69 rfl ?_
              refine s_iload_n C 72 3 rfl dX1_goesOn_71 rfl ?_
              refine s_iand C 73 rfl dX1_goesOn_72 ?_
              refine s_if_eq C 79 76 rfl dX1_goesOn_73 rfl (fun hc25 => ?_) (fun hc25 => ?_)
              · replace hf := bn_t hc25 hf
                refine s_aload_n C 80 2 rfl dX1_goesOn_79 rfl ?_
                refine s_iload_n C 81 3 rfl dX1_goesOn_80 rfl ?_
                refine s_iload C 83 0 rfl dX1_goesOn_81 rfl ?_
                refine s_ior C 84 rfl dX1_goesOn_83 ?_
                refine s_iconst C 85 rfl dX1_goesOn_84 ic_1 ?_
                refine s_ishr C 86 rfl dX1_goesOn_85 ?_
                refine s_aload_n C 87 2 rfl dX1_goesOn_86 rfl ?_
                refine s_get (C1 := RX1) (T := TX1) (N := 4) (ci := 1) C 90 0 0 uX1 rfl rfl (Nat.le_of_ble_eq_true rfl) uu101 rfl rfl rfl dX1_goesOn_87 ?_
                refine s_iload_n C 91 3 rfl dX1_goesOn_90 rfl ?_
                obtain ⟨h21, hf⟩ := ck_inb hf
                refine s_iald C 92 1 rfl h21 rfl dX1_goesOn_91 ?_
                refine s_aload_n C 93 2 rfl dX1_goesOn_92 rfl ?_
                refine s_get (C1 := RX1) (T := TX1) (N := 4) (ci := 1) C 96 0 1 uX1 rfl rfl (Nat.le_of_ble_eq_true rfl) uu103 rfl rfl rfl dX1_goesOn_93 ?_
                refine s_iload_n C 97 3 rfl dX1_goesOn_96 rfl ?_
                obtain ⟨h22, hf⟩ := ck_inb hf
                refine s_iald C 98 2 rfl h22 rfl dX1_goesOn_97 ?_
                refine s_iconst C 99 rfl dX1_goesOn_98 ic_1 ?_
                refine s_iadd C 100 rfl dX1_goesOn_99 ?_
                obtain ⟨r23, q24, hf⟩ := bn_b hf
                refine s_callW (T := TX1) (N := 4) (ci := 1) (q0 := 0) (rest := []) C 103 (c_X1_comesTo l D cI adK adV b0 kc c_ways c_fewest v16.2.1 v16.2.2 (jshr (a1 ||| (jshr r18 a2)) (1 : Int32)) (c_ways a1.toNatClampNeg) ((c_fewest a1.toNatClampNeg) + (1 : Int32)) r23 q24) (gV uu681 uu683 uu1554 uu4 uu684) hd_X1_comesTo rfl ⟨rfl, rfl⟩ ⟨Nat.le_of_ble_eq_true rfl, Nat.le_of_ble_eq_true rfl⟩ ⟨Nat.le_of_ble_eq_true rfl, Nat.le_of_ble_eq_true rfl⟩ rfl rfl rfl (Nat.le_of_ble_eq_true rfl) rfl dX1_goesOn_100 (fun _ => ?_)
                replace hf := bn_i hf
                exact s_lv [2, 3, 4, 5, 6] rfl (hj ((r23.2, r23.1) : (Nat → Int32) × (Nat → Int32)) hf)
              · replace hf := bn_f hc25 hf
                refine s_goto C 103 dX1_goesOn_76 rfl ?_
                replace hf := bn_i hf
                exact s_lv [2, 3, 4, 5, 6] rfl (hj ((v16.2.2, v16.2.1) : (Nat → Int32) × (Nat → Int32)) hf)
    · replace hf := ite_f hc33 hf
      refine s_aload_n C 15 0 rfl dX1_goesOn_14 rfl ?_
      refine s_iload_n C 16 1 rfl dX1_goesOn_15 rfl ?_
      refine s_iconst C 17 rfl dX1_goesOn_16 ic_1 ?_
      refine s_ishr C 18 rfl dX1_goesOn_17 ?_
      refine s_aload_n C 19 0 rfl dX1_goesOn_18 rfl ?_
      refine s_get (C1 := RX1) (T := TX1) (N := 4) (ci := 1) C 22 0 0 uX1 rfl rfl (Nat.le_of_ble_eq_true rfl) uu101 rfl rfl rfl dX1_goesOn_19 ?_
      refine s_iload_n C 23 1 rfl dX1_goesOn_22 rfl ?_
      obtain ⟨h29, hf⟩ := ck_in hf
      refine s_iald C 24 1 rfl h29 rfl dX1_goesOn_23 ?_
      refine s_aload_n C 25 0 rfl dX1_goesOn_24 rfl ?_
      refine s_get (C1 := RX1) (T := TX1) (N := 4) (ci := 1) C 28 0 1 uX1 rfl rfl (Nat.le_of_ble_eq_true rfl) uu103 rfl rfl rfl dX1_goesOn_25 ?_
      refine s_iload_n C 29 1 rfl dX1_goesOn_28 rfl ?_
      obtain ⟨h30, hf⟩ := ck_in hf
      refine s_iald C 30 2 rfl h30 rfl dX1_goesOn_29 ?_
      obtain ⟨r31, q32, hf⟩ := bn_s hf
      refine s_callW (T := TX1) (N := 4) (ci := 1) (q0 := 0) (rest := []) C 33 (c_X1_comesTo l D cI adK adV b0 kc c_ways c_fewest c_nextWays c_nextFewest (jshr a1 (1 : Int32)) (c_ways a1.toNatClampNeg) (c_fewest a1.toNatClampNeg) r31 q32) (gV uu681 uu683 uu1554 uu4 uu684) hd_X1_comesTo rfl ⟨rfl, rfl⟩ ⟨Nat.le_of_ble_eq_true rfl, Nat.le_of_ble_eq_true rfl⟩ ⟨Nat.le_of_ble_eq_true rfl, Nat.le_of_ble_eq_true rfl⟩ rfl rfl rfl (Nat.le_of_ble_eq_true rfl) rfl dX1_goesOn_30 (fun _ => ?_)
      obtain rfl := Option.some.inj hf
      exact s_vret C kc hr hlk rfl rfl dX1_goesOn_33


theorem hd_X1_covers : yX1_covers.cls = RX1 ∧ yX1_covers.cls ≠ "java/lang/invoke/MethodHandle" ∧ yX1_covers.cls ≠ "java/lang/invoke/VarHandle" ∧ (parseMethodDescriptor yX1_covers.desc).map (fun d => d.parameters.length) = some 1 := by decide +kernel
set_option maxHeartbeats 4000000 in
set_option maxRecDepth 100000 in
theorem c_X1_covers (l : Launch) (D : va_G) (cI : ClassId) (adK adV : Nat → Nat) (b0 : Nat) (kc : Nat → Nat) (c_ways : (Nat → Int32)) (c_fewest : (Nat → Int32)) (c_nextWays : (Nat → Int32)) (c_nextFewest : (Nat → Int32)) (a1 : Int32) (o : (Nat → Int32) × (Nat → Int32) × (Nat → Int32) × (Nat → Int32)) (hf : f_X1_covers c_ways c_fewest c_nextWays c_nextFewest a1 = some o) : Ct l D cI adK adV yX1_covers (wy yX1_covers cX1_covers 4 none) { frames := 3, cells := 0, slots := 0, locals := 73 } 0 0 [.ref b0, .int a1] (wCover b0 kc cI c_ways c_fewest c_nextWays c_nextFewest) (fun k => (wCover b0 k cI o.1 o.2.1 o.2.2.1 o.2.2.2)) (none) := by
  refine Ct.of (cc := cX1_covers) (nL := 4) (ret := none) (own := RX1) (by decide) (Nat.le_of_ble_eq_true rfl) rfl ?_
  intro p e s m args below meth c A C hr hlk hnm
  refine s_lv (lv1 := [(0, .ref b0), (1, .int a1)]) [0, 1] rfl ?_
  unfold f_X1_covers at hf
  refine s_aload_n C 1 0 rfl dX1_covers_0 rfl ?_
  obtain ⟨r1, q2, hf⟩ := bn_s hf
  refine s_callW (T := TX1) (N := 4) (ci := 1) (q0 := 0) (rest := []) C 4 (c_X1_empties l D cI adK adV b0 kc c_ways c_fewest c_nextWays c_nextFewest r1 q2) (gV uu676 uu678 uu1553 uu4 uu679) hd_X1_empties rfl ⟨rfl, rfl⟩ ⟨Nat.le_of_ble_eq_true rfl, Nat.le_of_ble_eq_true rfl⟩ ⟨Nat.le_of_ble_eq_true rfl, Nat.le_of_ble_eq_true rfl⟩ rfl rfl rfl (Nat.le_of_ble_eq_true rfl) rfl dX1_covers_1 (fun _ => ?_)
  refine s_aload_n C 5 0 rfl dX1_covers_4 rfl ?_
  refine s_iconst C 6 rfl dX1_covers_5 ic_0 ?_
  refine s_iconst C 7 rfl dX1_covers_6 ic_1 ?_
  refine s_iconst C 8 rfl dX1_covers_7 ic_0 ?_
  obtain ⟨r3, q4, hf⟩ := bn_s hf
  refine s_callW (T := TX1) (N := 4) (ci := 1) (q0 := 0) (rest := []) C 11 (c_X1_comesTo l D cI adK adV b0 kc c_ways c_fewest r1.1 r1.2 (0 : Int32) (1 : Int32) (0 : Int32) r3 q4) (gV uu681 uu683 uu1554 uu4 uu684) hd_X1_comesTo rfl ⟨rfl, rfl⟩ ⟨Nat.le_of_ble_eq_true rfl, Nat.le_of_ble_eq_true rfl⟩ ⟨Nat.le_of_ble_eq_true rfl, Nat.le_of_ble_eq_true rfl⟩ rfl rfl rfl (Nat.le_of_ble_eq_true rfl) rfl dX1_covers_8 (fun _ => ?_)
  refine s_iconst C 12 rfl dX1_covers_11 ic_0 ?_
  refine s_istore_n (lv1 := [(2, .int (0 : Int32)), (0, .ref b0), (1, .int a1)]) C 13 2 rfl dX1_covers_12 rfl (Nat.le_of_ble_eq_true rfl) rfl ?_
  refine s_lv (lv1 := [(0, .ref b0), (1, .int a1), (2, .int (0 : Int32))]) [1, 2, 0] rfl ?_
  refine s_loopC (α := Int32 × (Nat → Int32) × (Nat → Int32) × (Nat → Int32) × (Nat → Int32)) (fun n v30 => f_X1_covers_13 a1 n v30.1 v30.2.1 v30.2.2.1 v30.2.2.2.1 v30.2.2.2.2) 13 (fun v30 kc31 => [(0, .ref b0), (1, .int a1), (2, .int v30.1)]) (fun v30 kc31 => (wCover b0 kc31 cI v30.2.1 v30.2.2.1 v30.2.2.2.1 v30.2.2.2.2)) 1000 ((0 : Int32), c_ways, c_fewest, r3.1, r3.2) kc hf (fun v30 hf => by simp only [f_X1_covers_13] at hf; exact absurd hf (by simp)) (fun n ih32 v30 kc31 hf => ?_)
  replace hf := (f_X1_covers_13_s _ _ _ _ _ _ _).symm.trans hf
  refine s_iload_n C 14 2 rfl dX1_covers_13 rfl ?_
  refine s_bipush C 16 rfl dX1_covers_14 bp_25 ?_
  refine s_icmp_ge C 62 19 rfl dX1_covers_16 rfl (fun hc51 => ?_) (fun hc51 => ?_)
  · replace hf := ite_t hc51 hf
    refine s_aload_n C 63 0 rfl dX1_covers_62 rfl ?_
    obtain ⟨r33, q34, hf⟩ := bn_s hf
    refine s_callW (T := TX1) (N := 4) (ci := 1) (q0 := 0) (rest := []) C 66 (c_X1_steps l D cI adK adV b0 kc31 v30.2.1 v30.2.2.1 v30.2.2.2.1 v30.2.2.2.2 r33 q34) (gV uu690 uu692 uu1555 uu4 uu693) hd_X1_steps rfl ⟨rfl, rfl⟩ ⟨Nat.le_of_ble_eq_true rfl, Nat.le_of_ble_eq_true rfl⟩ ⟨Nat.le_of_ble_eq_true rfl, Nat.le_of_ble_eq_true rfl⟩ rfl rfl rfl (Nat.le_of_ble_eq_true rfl) rfl dX1_covers_63 (fun kc35 => ?_)
    obtain rfl := Option.some.inj hf
    exact s_vret C kc35 hr hlk rfl rfl dX1_covers_66
  · replace hf := ite_f hc51 hf
    refine s_aload_n C 20 0 rfl dX1_covers_19 rfl ?_
    obtain ⟨r36, q37, hf⟩ := bn_s hf
    refine s_callW (T := TX1) (N := 4) (ci := 1) (q0 := 0) (rest := []) C 23 (c_X1_steps l D cI adK adV b0 kc31 v30.2.1 v30.2.2.1 v30.2.2.2.1 v30.2.2.2.2 r36 q37) (gV uu690 uu692 uu1555 uu4 uu693) hd_X1_steps rfl ⟨rfl, rfl⟩ ⟨Nat.le_of_ble_eq_true rfl, Nat.le_of_ble_eq_true rfl⟩ ⟨Nat.le_of_ble_eq_true rfl, Nat.le_of_ble_eq_true rfl⟩ rfl rfl rfl (Nat.le_of_ble_eq_true rfl) rfl dX1_covers_20 (fun kc38 => ?_)
    refine s_iconst C 24 rfl dX1_covers_23 ic_0 ?_
    refine s_istore_n (lv1 := [(3, .int (0 : Int32)), (0, .ref b0), (1, .int a1), (2, .int v30.1)]) C 25 3 rfl dX1_covers_24 rfl (Nat.le_of_ble_eq_true rfl) rfl ?_
    refine s_lv (lv1 := [(0, .ref b0), (1, .int a1), (2, .int v30.1), (3, .int (0 : Int32))]) [1, 2, 3, 0] rfl ?_
    refine s_kontC (γ := (Nat → Int32) × (Nat → Int32)) (o := o) (fun KQ => f_X1_covers_25 a1 v30.1 r36.1 r36.2.1 KQ 1000 (0 : Int32) r36.2.2.1 r36.2.2.2 = some o) 56 (fun e40 kc41 => [(0, .ref b0), (1, .int a1), (2, .int v30.1)]) (fun e40 kc41 => []) (fun e40 kc41 => (wCover b0 kc41 cI r36.1 r36.2.1 e40.1 e40.2)) hf (fun e40 kc41 hf => ?_) (fun k39 hk39 hf => ?_)
    · refine s_iinc (lv1 := [(2, .int (v30.1 + (1 : Int32))), (0, .ref b0), (1, .int a1)]) C 59 2 2 rfl dX1_covers_56 rfl ic_1 (Nat.le_of_ble_eq_true rfl) rfl ?_
      refine s_goto C 13 dX1_covers_59 rfl ?_
      exact s_lv [1, 2, 0] rfl (ih32 ((v30.1 + (1 : Int32), r36.1, r36.2.1, e40.1, e40.2) : Int32 × (Nat → Int32) × (Nat → Int32) × (Nat → Int32) × (Nat → Int32)) kc41 hf)
    · skip
      refine s_loopC (α := Int32 × (Nat → Int32) × (Nat → Int32)) (fun n v42 => f_X1_covers_25 a1 v30.1 r36.1 r36.2.1 k39 n v42.1 v42.2.1 v42.2.2) 25 (fun v42 kc43 => [(0, .ref b0), (1, .int a1), (2, .int v30.1), (3, .int v42.1)]) (fun v42 kc43 => (wCover b0 kc43 cI r36.1 r36.2.1 v42.2.1 v42.2.2)) 1000 ((0 : Int32), r36.2.2.1, r36.2.2.2) kc38 hf (fun v42 hf => by simp only [f_X1_covers_25] at hf; exact absurd hf (by simp)) (fun n ih44 v42 kc43 hf => ?_)
      replace hf := (f_X1_covers_25_s _ _ _ _ _ _ _ _ _).symm.trans hf
      refine s_iload_n C 26 3 rfl dX1_covers_25 rfl ?_
      refine s_bipush C 28 rfl dX1_covers_26 bp_64 ?_
      refine s_icmp_ge C 56 31 rfl dX1_covers_28 rfl (fun hc50 => ?_) (fun hc50 => ?_)
      · replace hf := ite_t hc50 hf
        exact s_lv [0, 1, 2] rfl (hk39 ((v42.2.1, v42.2.2) : (Nat → Int32) × (Nat → Int32)) kc43 hf)
      · replace hf := ite_f hc50 hf
        refine s_aload_n C 32 0 rfl dX1_covers_31 rfl ?_
        refine s_get (C1 := RX1) (T := TX1) (N := 4) (ci := 1) C 35 0 1 uX1 rfl rfl (Nat.le_of_ble_eq_true rfl) uu103 rfl rfl rfl dX1_covers_32 ?_
        refine s_iload_n C 36 3 rfl dX1_covers_35 rfl ?_
        obtain ⟨h45, hf⟩ := ck_in hf
        refine s_iald C 37 2 rfl h45 rfl dX1_covers_36 ?_
        refine s_sipush C 40 rfl dX1_covers_37 sp_1000 ?_
        refine s_bn (α := (Nat → Int32) × (Nat → Int32)) 50 (fun j46 => [(0, .ref b0), (1, .int a1), (2, .int v30.1), (3, .int v42.1)]) (fun j46 => []) (fun j46 => (wCover b0 kc43 cI r36.1 r36.2.1 j46.2 j46.1)) hf (fun j46 hf => ?_) (fun hj hf => ?_)
        · refine s_iinc (lv1 := [(3, .int (v42.1 + (1 : Int32))), (0, .ref b0), (1, .int a1), (2, .int v30.1)]) C 53 3 3 rfl dX1_covers_50 rfl ic_1 (Nat.le_of_ble_eq_true rfl) rfl ?_
          refine s_goto C 25 dX1_covers_53 rfl ?_
          exact s_lv [1, 2, 3, 0] rfl (ih44 ((v42.1 + (1 : Int32), j46.2, j46.1) : Int32 × (Nat → Int32) × (Nat → Int32)) kc43 hf)
        · refine s_icmp_ge C 50 43 rfl dX1_covers_40 rfl (fun hc49 => ?_) (fun hc49 => ?_)
          · replace hf := bn_t hc49 hf
            replace hf := bn_i hf
            exact s_lv [0, 1, 2, 3] rfl (hj ((v42.2.2, v42.2.1) : (Nat → Int32) × (Nat → Int32)) hf)
          · replace hf := bn_f hc49 hf
            refine s_aload_n C 44 0 rfl dX1_covers_43 rfl ?_
            refine s_iload_n C 45 3 rfl dX1_covers_44 rfl ?_
            refine s_iload_n C 46 2 rfl dX1_covers_45 rfl ?_
            refine s_iload_n C 47 1 rfl dX1_covers_46 rfl ?_
            obtain ⟨r47, q48, hf⟩ := bn_b hf
            refine s_callW (T := TX1) (N := 4) (ci := 1) (q0 := 0) (rest := []) C 50 (c_X1_goesOn l D cI adK adV b0 kc43 r36.1 r36.2.1 v42.2.1 v42.2.2 v42.1 v30.1 a1 r47 q48) (gV uu695 uu697 uu1556 uu4 uu698) hd_X1_goesOn rfl ⟨rfl, rfl⟩ ⟨Nat.le_of_ble_eq_true rfl, Nat.le_of_ble_eq_true rfl⟩ ⟨Nat.le_of_ble_eq_true rfl, Nat.le_of_ble_eq_true rfl⟩ rfl rfl rfl (Nat.le_of_ble_eq_true rfl) rfl dX1_covers_47 (fun _ => ?_)
            replace hf := bn_i hf
            exact s_lv [0, 1, 2, 3] rfl (hj ((r47.2, r47.1) : (Nat → Int32) × (Nat → Int32)) hf)

