
theorem hd_X0_becomes : yX0_becomes.cls = RX0 ∧ yX0_becomes.cls ≠ "java/lang/invoke/MethodHandle" ∧ yX0_becomes.cls ≠ "java/lang/invoke/VarHandle" ∧ (parseMethodDescriptor yX0_becomes.desc).map (fun d => d.parameters.length) = some 1 := by decide +kernel
set_option maxHeartbeats 4000000 in
set_option maxRecDepth 100000 in
theorem c_X0_becomes (l : Launch) (D : va_G) (cI : ClassId) (adK adV : Nat → Nat) (b0 : Nat) (b1 : Nat) (b2 : Nat) (b3 : Nat) (b4 : Nat) (b5 : Nat) (o_heirs : Int32) (o_left : Int32) (o_bitten : Int32) (o_kinds : (Nat → Int32)) (o_figures : (Nat → Int32)) (q_heirs : Int32) (q_left : Int32) (q_bitten : Int32) (q_kinds : (Nat → Int32)) (q_figures : (Nat → Int32))  (o : Int32 × Int32 × Int32 × (Nat → Int32) × (Nat → Int32)) (hf : f_X0_becomes o_kinds o_figures q_heirs q_left q_bitten q_kinds q_figures = some o) : Ct l D cI adK adV yX0_becomes (wy yX0_becomes cX0_becomes 2 none) { frames := 1, cells := 0, slots := 0, locals := 60 } 0 0 [.ref b0, .ref b3] (wCore2 b0 b1 b2 b3 b4 b5 cI o_heirs o_left o_bitten o_kinds o_figures q_heirs q_left q_bitten q_kinds q_figures) (fun _ => (wCore2 b0 b1 b2 b3 b4 b5 cI o.1 o.2.1 o.2.2.1 o.2.2.2.1 o.2.2.2.2 q_heirs q_left q_bitten q_kinds q_figures)) (none) := by
  refine Ct.of (cc := cX0_becomes) (nL := 2) (ret := none) (own := RX0) (by decide) (Nat.le_of_ble_eq_true rfl) rfl ?_
  intro p e s m args below meth c A C hr hlk hnm
  refine s_lv (lv1 := [(0, .ref b0), (1, .ref b3)]) [0, 1] rfl ?_
  unfold f_X0_becomes at hf
  refine s_aload_n C 1 1 rfl dX0_becomes_0 rfl ?_
  refine s_get (C1 := RX0) (T := TX0) (N := 5) (ci := 0) C 4 3 0 uX0 rfl rfl (Nat.le_of_ble_eq_true rfl) uu39 rfl rfl rfl dX0_becomes_1 ?_
  refine s_iconst C 5 rfl dX0_becomes_4 ic_0 ?_
  refine s_aload_n C 6 0 rfl dX0_becomes_5 rfl ?_
  refine s_get (C1 := RX0) (T := TX0) (N := 5) (ci := 0) C 9 0 0 uX0 rfl rfl (Nat.le_of_ble_eq_true rfl) uu39 rfl rfl rfl dX0_becomes_6 ?_
  refine s_iconst C 10 rfl dX0_becomes_9 ic_0 ?_
  refine s_iconst C 11 rfl dX0_becomes_10 ic_5 ?_
  refine s_copyi (ws1 := (wCore2 b0 b1 b2 b3 b4 b5 cI o_heirs o_left o_bitten (va_cpy q_kinds o_kinds 0 0 5) o_figures q_heirs q_left q_bitten q_kinds q_figures)) C 14 4 1 uu389 uu392 uu391 uu13 rfl rfl (by decide) (by decide) (by decide) (by decide) (by decide) ⟨by decide, by decide⟩ rfl rfl dX0_becomes_11 ?_
  refine s_aload_n C 15 1 rfl dX0_becomes_14 rfl ?_
  refine s_get (C1 := RX0) (T := TX0) (N := 5) (ci := 0) C 18 3 1 uX0 rfl rfl (Nat.le_of_ble_eq_true rfl) uu43 rfl rfl rfl dX0_becomes_15 ?_
  refine s_iconst C 19 rfl dX0_becomes_18 ic_0 ?_
  refine s_aload_n C 20 0 rfl dX0_becomes_19 rfl ?_
  refine s_get (C1 := RX0) (T := TX0) (N := 5) (ci := 0) C 23 0 1 uX0 rfl rfl (Nat.le_of_ble_eq_true rfl) uu43 rfl rfl rfl dX0_becomes_20 ?_
  refine s_iconst C 24 rfl dX0_becomes_23 ic_0 ?_
  refine s_iconst C 25 rfl dX0_becomes_24 ic_5 ?_
  refine s_copyi (ws1 := (wCore2 b0 b1 b2 b3 b4 b5 cI o_heirs o_left o_bitten (va_cpy q_kinds o_kinds 0 0 5) (va_cpy q_figures o_figures 0 0 5) q_heirs q_left q_bitten q_kinds q_figures)) C 28 5 2 uu389 uu392 uu391 uu13 rfl rfl (by decide) (by decide) (by decide) (by decide) (by decide) ⟨by decide, by decide⟩ rfl rfl dX0_becomes_25 ?_
  refine s_aload_n C 29 0 rfl dX0_becomes_28 rfl ?_
  refine s_aload_n C 30 1 rfl dX0_becomes_29 rfl ?_
  refine s_get (C1 := RX0) (T := TX0) (N := 5) (ci := 0) C 33 3 2 uX0 rfl rfl (Nat.le_of_ble_eq_true rfl) uu47 rfl rfl rfl dX0_becomes_30 ?_
  refine s_put (C1 := RX0) (T := TX0) (N := 5) (ci := 0) (ty := tyX0 2) (ws1 := (wCore2 b0 b1 b2 b3 b4 b5 cI q_heirs o_left o_bitten (va_cpy q_kinds o_kinds 0 0 5) (va_cpy q_figures o_figures 0 0 5) q_heirs q_left q_bitten q_kinds q_figures)) C 36 0 2 uX0 tyX0 tyX0_ok nmX0 rfl rfl (Nat.le_of_ble_eq_true rfl) uu47 rfl rfl (tyX0_ok 2 (Nat.le_of_ble_eq_true rfl)) ⟨rfl, rfl⟩ (Nat.le_of_ble_eq_true rfl) rfl rfl dX0_becomes_33 ?_
  refine s_aload_n C 37 0 rfl dX0_becomes_36 rfl ?_
  refine s_aload_n C 38 1 rfl dX0_becomes_37 rfl ?_
  refine s_get (C1 := RX0) (T := TX0) (N := 5) (ci := 0) C 41 3 3 uX0 rfl rfl (Nat.le_of_ble_eq_true rfl) uu51 rfl rfl rfl dX0_becomes_38 ?_
  refine s_put (C1 := RX0) (T := TX0) (N := 5) (ci := 0) (ty := tyX0 3) (ws1 := (wCore2 b0 b1 b2 b3 b4 b5 cI q_heirs q_left o_bitten (va_cpy q_kinds o_kinds 0 0 5) (va_cpy q_figures o_figures 0 0 5) q_heirs q_left q_bitten q_kinds q_figures)) C 44 0 3 uX0 tyX0 tyX0_ok nmX0 rfl rfl (Nat.le_of_ble_eq_true rfl) uu51 rfl rfl (tyX0_ok 3 (Nat.le_of_ble_eq_true rfl)) ⟨rfl, rfl⟩ (Nat.le_of_ble_eq_true rfl) rfl rfl dX0_becomes_41 ?_
  refine s_aload_n C 45 0 rfl dX0_becomes_44 rfl ?_
  refine s_aload_n C 46 1 rfl dX0_becomes_45 rfl ?_
  refine s_get (C1 := RX0) (T := TX0) (N := 5) (ci := 0) C 49 3 4 uX0 rfl rfl (Nat.le_of_ble_eq_true rfl) uu55 rfl rfl rfl dX0_becomes_46 ?_
  refine s_put (C1 := RX0) (T := TX0) (N := 5) (ci := 0) (ty := tyX0 4) (ws1 := (wCore2 b0 b1 b2 b3 b4 b5 cI q_heirs q_left q_bitten (va_cpy q_kinds o_kinds 0 0 5) (va_cpy q_figures o_figures 0 0 5) q_heirs q_left q_bitten q_kinds q_figures)) C 52 0 4 uX0 tyX0 tyX0_ok nmX0 rfl rfl (Nat.le_of_ble_eq_true rfl) uu55 rfl rfl (tyX0_ok 4 (Nat.le_of_ble_eq_true rfl)) ⟨rfl, rfl⟩ (Nat.le_of_ble_eq_true rfl) rfl rfl dX0_becomes_49 ?_
  obtain rfl := Option.some.inj hf
  exact s_vret C (fun i => i) hr hlk rfl rfl dX0_becomes_52


theorem hd_X0_takesHeir : yX0_takesHeir.cls = RX0 ∧ yX0_takesHeir.cls ≠ "java/lang/invoke/MethodHandle" ∧ yX0_takesHeir.cls ≠ "java/lang/invoke/VarHandle" ∧ (parseMethodDescriptor yX0_takesHeir.desc).map (fun d => d.parameters.length) = some 2 := by decide +kernel
set_option maxHeartbeats 4000000 in
set_option maxRecDepth 100000 in
theorem c_X0_takesHeir (l : Launch) (D : va_G) (cI : ClassId) (adK adV : Nat → Nat) (b0 : Nat) (b1 : Nat) (b2 : Nat) (o_heirs : Int32) (o_left : Int32) (o_bitten : Int32) (o_kinds : (Nat → Int32)) (o_figures : (Nat → Int32)) (a1 : Int32) (a2 : Int32) (o : Int32 × Int32 × (Nat → Int32) × (Nat → Int32)) (hf : f_X0_takesHeir o_heirs o_kinds o_figures a1 a2 = some o) : Ct l D cI adK adV yX0_takesHeir (wy yX0_takesHeir cX0_takesHeir 3 (some .boolean)) { frames := 0, cells := 0, slots := 0, locals := 0 } 0 0 [.ref b0, .int a1, .int a2] (wCore b0 b1 b2 cI o_heirs o_left o_bitten o_kinds o_figures) (fun _ => (wCore b0 b1 b2 cI o.2.1 o_left o_bitten o.2.2.1 o.2.2.2)) (some (.int o.1)) := by
  refine Ct.of (cc := cX0_takesHeir) (nL := 3) (ret := (some .boolean)) (own := RX0) (by decide) (Nat.le_of_ble_eq_true rfl) rfl ?_
  intro p e s m args below meth c A C hr hlk hnm
  refine s_lv (lv1 := [(0, .ref b0), (1, .int a1), (2, .int a2)]) [0, 1, 2] rfl ?_
  unfold f_X0_takesHeir at hf
  refine s_aload_n C 1 0 rfl dX0_takesHeir_0 rfl ?_
  refine s_get (C1 := RX0) (T := TX0) (N := 5) (ci := 0) C 4 0 2 uX0 rfl rfl (Nat.le_of_ble_eq_true rfl) uu47 rfl rfl rfl dX0_takesHeir_1 ?_
  refine s_iconst C 5 rfl dX0_takesHeir_4 ic_5 ?_
  refine s_icmp_lt C 10 8 rfl dX0_takesHeir_5 rfl (fun hc3 => ?_) (fun hc3 => ?_)
  · replace hf := ite_t hc3 hf
    refine s_aload_n C 11 0 rfl dX0_takesHeir_10 rfl ?_
    refine s_get (C1 := RX0) (T := TX0) (N := 5) (ci := 0) C 14 0 0 uX0 rfl rfl (Nat.le_of_ble_eq_true rfl) uu39 rfl rfl rfl dX0_takesHeir_11 ?_
    refine s_aload_n C 15 0 rfl dX0_takesHeir_14 rfl ?_
    refine s_get (C1 := RX0) (T := TX0) (N := 5) (ci := 0) C 18 0 2 uX0 rfl rfl (Nat.le_of_ble_eq_true rfl) uu47 rfl rfl rfl dX0_takesHeir_15 ?_
    refine s_iload_n C 19 1 rfl dX0_takesHeir_18 rfl ?_
    obtain ⟨h1, hf⟩ := ck_in hf
    refine s_iast (ws1 := (wCore b0 b1 b2 cI o_heirs o_left o_bitten (upd o_kinds o_heirs.toNatClampNeg a1) o_figures)) C 20 1 rfl h1 rfl rfl dX0_takesHeir_19 ?_
    refine s_aload_n C 21 0 rfl dX0_takesHeir_20 rfl ?_
    refine s_get (C1 := RX0) (T := TX0) (N := 5) (ci := 0) C 24 0 1 uX0 rfl rfl (Nat.le_of_ble_eq_true rfl) uu43 rfl rfl rfl dX0_takesHeir_21 ?_
    refine s_aload_n C 25 0 rfl dX0_takesHeir_24 rfl ?_
    refine s_get (C1 := RX0) (T := TX0) (N := 5) (ci := 0) C 28 0 2 uX0 rfl rfl (Nat.le_of_ble_eq_true rfl) uu47 rfl rfl rfl dX0_takesHeir_25 ?_
    refine s_iload_n C 29 2 rfl dX0_takesHeir_28 rfl ?_
    obtain ⟨h2, hf⟩ := ck_in hf
    refine s_iast (ws1 := (wCore b0 b1 b2 cI o_heirs o_left o_bitten (upd o_kinds o_heirs.toNatClampNeg a1) (upd o_figures o_heirs.toNatClampNeg a2))) C 30 2 rfl h2 rfl rfl dX0_takesHeir_29 ?_
    refine s_aload_n C 31 0 rfl dX0_takesHeir_30 rfl ?_
    refine s_dup C 32 rfl dX0_takesHeir_31 rfl ?_
    refine s_get (C1 := RX0) (T := TX0) (N := 5) (ci := 0) C 35 0 2 uX0 rfl rfl (Nat.le_of_ble_eq_true rfl) uu47 rfl rfl rfl dX0_takesHeir_32 ?_
    refine s_iconst C 36 rfl dX0_takesHeir_35 ic_1 ?_
    refine s_iadd C 37 rfl dX0_takesHeir_36 ?_
    refine s_put (C1 := RX0) (T := TX0) (N := 5) (ci := 0) (ty := tyX0 2) (ws1 := (wCore b0 b1 b2 cI (o_heirs + (1 : Int32)) o_left o_bitten (upd o_kinds o_heirs.toNatClampNeg a1) (upd o_figures o_heirs.toNatClampNeg a2))) C 40 0 2 uX0 tyX0 tyX0_ok nmX0 rfl rfl (Nat.le_of_ble_eq_true rfl) uu47 rfl rfl (tyX0_ok 2 (Nat.le_of_ble_eq_true rfl)) ⟨rfl, rfl⟩ (Nat.le_of_ble_eq_true rfl) rfl rfl dX0_takesHeir_37 ?_
    refine s_iconst C 41 rfl dX0_takesHeir_40 ic_1 ?_
    obtain rfl := Option.some.inj hf
    exact s_zret C (fun i => i) hr hlk (Or.inr rfl) rfl rfl dX0_takesHeir_41
  · replace hf := ite_f hc3 hf
    refine s_iconst C 9 rfl dX0_takesHeir_8 ic_0 ?_
    obtain rfl := Option.some.inj hf
    exact s_zret C (fun i => i) hr hlk (Or.inl rfl) rfl rfl dX0_takesHeir_9


theorem hd_X0_renews : yX0_renews.cls = RX0 ∧ yX0_renews.cls ≠ "java/lang/invoke/MethodHandle" ∧ yX0_renews.cls ≠ "java/lang/invoke/VarHandle" ∧ (parseMethodDescriptor yX0_renews.desc).map (fun d => d.parameters.length) = some 0 := by decide +kernel
set_option maxHeartbeats 4000000 in
set_option maxRecDepth 100000 in
theorem c_X0_renews (l : Launch) (D : va_G) (cI : ClassId) (adK adV : Nat → Nat) (b0 : Nat) (b1 : Nat) (b2 : Nat) (o_heirs : Int32) (o_left : Int32) (o_bitten : Int32) (o_kinds : (Nat → Int32)) (o_figures : (Nat → Int32))  (o : Int32 × Int32 × Int32) (hf : f_X0_renews  = some o) : Ct l D cI adK adV yX0_renews (wy yX0_renews cX0_renews 1 (some .boolean)) { frames := 0, cells := 0, slots := 0, locals := 0 } 0 0 [.ref b0] (wCore b0 b1 b2 cI o_heirs o_left o_bitten o_kinds o_figures) (fun _ => (wCore b0 b1 b2 cI o_heirs o.2.1 o.2.2 o_kinds o_figures)) (some (.int o.1)) := by
  refine Ct.of (cc := cX0_renews) (nL := 1) (ret := (some .boolean)) (own := RX0) (by decide) (Nat.le_of_ble_eq_true rfl) rfl ?_
  intro p e s m args below meth c A C hr hlk hnm
  refine s_lv (lv1 := [(0, .ref b0)]) [0] rfl ?_
  unfold f_X0_renews at hf
  refine s_aload_n C 1 0 rfl dX0_renews_0 rfl ?_
  refine s_ldc C 3 rfl dX0_renews_1 uu37 ?_
  refine s_put (C1 := RX0) (T := TX0) (N := 5) (ci := 0) (ty := tyX0 3) (ws1 := (wCore b0 b1 b2 cI o_heirs (33554431 : Int32) o_bitten o_kinds o_figures)) C 6 0 3 uX0 tyX0 tyX0_ok nmX0 rfl rfl (Nat.le_of_ble_eq_true rfl) uu51 rfl rfl (tyX0_ok 3 (Nat.le_of_ble_eq_true rfl)) ⟨rfl, rfl⟩ (Nat.le_of_ble_eq_true rfl) rfl rfl dX0_renews_3 ?_
  refine s_aload_n C 7 0 rfl dX0_renews_6 rfl ?_
  refine s_iconst C 8 rfl dX0_renews_7 ic_0 ?_
  refine s_put (C1 := RX0) (T := TX0) (N := 5) (ci := 0) (ty := tyX0 4) (ws1 := (wCore b0 b1 b2 cI o_heirs (33554431 : Int32) (0 : Int32) o_kinds o_figures)) C 11 0 4 uX0 tyX0 tyX0_ok nmX0 rfl rfl (Nat.le_of_ble_eq_true rfl) uu55 rfl rfl (tyX0_ok 4 (Nat.le_of_ble_eq_true rfl)) ⟨rfl, rfl⟩ (Nat.le_of_ble_eq_true rfl) rfl rfl dX0_renews_8 ?_
  refine s_iconst C 12 rfl dX0_renews_11 ic_1 ?_
  obtain rfl := Option.some.inj hf
  exact s_zret C (fun i => i) hr hlk (Or.inr rfl) rfl rfl dX0_renews_12


theorem hd_X0_mends : yX0_mends.cls = RX0 ∧ yX0_mends.cls ≠ "java/lang/invoke/MethodHandle" ∧ yX0_mends.cls ≠ "java/lang/invoke/VarHandle" ∧ (parseMethodDescriptor yX0_mends.desc).map (fun d => d.parameters.length) = some 1 := by decide +kernel
set_option maxHeartbeats 4000000 in
set_option maxRecDepth 100000 in
theorem c_X0_mends (l : Launch) (D : va_G) (cI : ClassId) (adK adV : Nat → Nat) (b0 : Nat) (b1 : Nat) (b2 : Nat) (o_heirs : Int32) (o_left : Int32) (o_bitten : Int32) (o_kinds : (Nat → Int32)) (o_figures : (Nat → Int32)) (a1 : Int32) (o : Int32 × Int32) (hf : f_X0_mends o_left a1 = some o) : Ct l D cI adK adV yX0_mends (wy yX0_mends cX0_mends 2 (some .boolean)) { frames := 1, cells := 0, slots := 0, locals := 20 } 0 0 [.ref b0, .int a1] (wCore b0 b1 b2 cI o_heirs o_left o_bitten o_kinds o_figures) (fun _ => (wCore b0 b1 b2 cI o_heirs o.2 o_bitten o_kinds o_figures)) (some (.int o.1)) := by
  refine Ct.of (cc := cX0_mends) (nL := 2) (ret := (some .boolean)) (own := RX0) (by decide) (Nat.le_of_ble_eq_true rfl) rfl ?_
  intro p e s m args below meth c A C hr hlk hnm
  refine s_lv (lv1 := [(0, .ref b0), (1, .int a1)]) [0, 1] rfl ?_
  unfold f_X0_mends at hf
  refine s_iload_n C 1 1 rfl dX0_mends_0 rfl ?_
  obtain ⟨r1, q2, hf⟩ := bn_s hf
  refine s_callN0 (host := RX5) (rest := []) C 4 (c_X5_isCell l D cI adK adV a1 r1 q2) (gC uu433) (by decide +kernel) uu1 uu432 hd_X5_isCell rfl ⟨rfl, rfl⟩ ⟨Nat.le_of_ble_eq_true rfl, Nat.le_of_ble_eq_true rfl⟩ ⟨Nat.le_of_ble_eq_true rfl, Nat.le_of_ble_eq_true rfl⟩ rfl (Nat.le_of_ble_eq_true rfl) rfl dX0_mends_1 ?_
  refine s_if_ne C 9 7 rfl dX0_mends_4 rfl (fun hc3 => ?_) (fun hc3 => ?_)
  · replace hf := ite_f hc3 hf
    refine s_aload_n C 10 0 rfl dX0_mends_9 rfl ?_
    refine s_dup C 11 rfl dX0_mends_10 rfl ?_
    refine s_get (C1 := RX0) (T := TX0) (N := 5) (ci := 0) C 14 0 3 uX0 rfl rfl (Nat.le_of_ble_eq_true rfl) uu51 rfl rfl rfl dX0_mends_11 ?_
    refine s_iconst C 15 rfl dX0_mends_14 ic_1 ?_
    refine s_iload_n C 16 1 rfl dX0_mends_15 rfl ?_
    refine s_ishl C 17 rfl dX0_mends_16 ?_
    refine s_ior C 18 rfl dX0_mends_17 ?_
    refine s_put (C1 := RX0) (T := TX0) (N := 5) (ci := 0) (ty := tyX0 3) (ws1 := (wCore b0 b1 b2 cI o_heirs (o_left ||| (jshl (1 : Int32) a1)) o_bitten o_kinds o_figures)) C 21 0 3 uX0 tyX0 tyX0_ok nmX0 rfl rfl (Nat.le_of_ble_eq_true rfl) uu51 rfl rfl (tyX0_ok 3 (Nat.le_of_ble_eq_true rfl)) ⟨rfl, rfl⟩ (Nat.le_of_ble_eq_true rfl) rfl rfl dX0_mends_18 ?_
    refine s_iconst C 22 rfl dX0_mends_21 ic_1 ?_
    obtain rfl := Option.some.inj hf
    exact s_zret C (fun i => i) hr hlk (Or.inr rfl) rfl rfl dX0_mends_22
  · replace hf := ite_t hc3 hf
    refine s_iconst C 8 rfl dX0_mends_7 ic_0 ?_
    obtain rfl := Option.some.inj hf
    exact s_zret C (fun i => i) hr hlk (Or.inl rfl) rfl rfl dX0_mends_8


theorem hd_X0_turnsBy : yX0_turnsBy.cls = RX0 ∧ yX0_turnsBy.cls ≠ "java/lang/invoke/MethodHandle" ∧ yX0_turnsBy.cls ≠ "java/lang/invoke/VarHandle" ∧ (parseMethodDescriptor yX0_turnsBy.desc).map (fun d => d.parameters.length) = some 1 := by decide +kernel
set_option maxHeartbeats 4000000 in
set_option maxRecDepth 100000 in
theorem c_X0_turnsBy (l : Launch) (D : va_G) (cI : ClassId) (adK adV : Nat → Nat) (b0 : Nat) (b1 : Nat) (b2 : Nat) (o_heirs : Int32) (o_left : Int32) (o_bitten : Int32) (o_kinds : (Nat → Int32)) (o_figures : (Nat → Int32)) (a1 : Int32) (o : Int32 × Int32) (hf : f_X0_turnsBy o_left a1 = some o) : Ct l D cI adK adV yX0_turnsBy (wy yX0_turnsBy cX0_turnsBy 3 (some .boolean)) { frames := 1, cells := 0, slots := 0, locals := 23 } 0 0 [.ref b0, .int a1] (wCore b0 b1 b2 cI o_heirs o_left o_bitten o_kinds o_figures) (fun _ => (wCore b0 b1 b2 cI o_heirs o.2 o_bitten o_kinds o_figures)) (some (.int o.1)) := by
  refine Ct.of (cc := cX0_turnsBy) (nL := 3) (ret := (some .boolean)) (own := RX0) (by decide) (Nat.le_of_ble_eq_true rfl) rfl ?_
  intro p e s m args below meth c A C hr hlk hnm
  refine s_lv (lv1 := [(0, .ref b0), (1, .int a1)]) [0, 1] rfl ?_
  unfold f_X0_turnsBy at hf
  refine s_iload_n C 1 1 rfl dX0_turnsBy_0 rfl ?_
  refine s_iconst C 2 rfl dX0_turnsBy_1 ic_1 ?_
  refine s_icmp_lt C 10 5 rfl dX0_turnsBy_2 rfl (fun hc10 => ?_) (fun hc10 => ?_)
  · replace hf := ite_t hc10 hf
    refine s_iconst C 11 rfl dX0_turnsBy_10 ic_0 ?_
    obtain rfl := Option.some.inj hf
    exact s_zret C (fun i => i) hr hlk (Or.inl rfl) rfl rfl dX0_turnsBy_11
  · replace hf := ite_f hc10 hf
    refine s_iload_n C 6 1 rfl dX0_turnsBy_5 rfl ?_
    refine s_iconst C 7 rfl dX0_turnsBy_6 ic_3 ?_
    refine s_icmp_le C 12 10 rfl dX0_turnsBy_7 rfl (fun hc9 => ?_) (fun hc9 => ?_)
    · replace hf := ite_t hc9 hf
      refine s_iconst C 13 rfl dX0_turnsBy_12 ic_0 ?_
      refine s_istore_n (lv1 := [(2, .int (0 : Int32)), (0, .ref b0), (1, .int a1)]) C 14 2 rfl dX0_turnsBy_13 rfl (Nat.le_of_ble_eq_true rfl) rfl ?_
      refine s_lv (lv1 := [(0, .ref b0), (1, .int a1), (2, .int (0 : Int32))]) [1, 2, 0] rfl ?_
      refine s_loop (α := Int32 × Int32) (fun n v4 => f_X0_turnsBy_14 a1 n v4.1 v4.2) 14 (fun v4 => [(0, .ref b0), (1, .int a1), (2, .int v4.1)]) (fun v4 => (wCore b0 b1 b2 cI o_heirs v4.2 o_bitten o_kinds o_figures)) 1000 ((0 : Int32), o_left) hf (fun v4 hf => by simp only [f_X0_turnsBy_14] at hf; exact absurd hf (by simp)) (fun n ih5 v4 hf => ?_)
      replace hf := (f_X0_turnsBy_14_s _ _ _ _).symm.trans hf
      refine s_iload_n C 15 2 rfl dX0_turnsBy_14 rfl ?_
      refine s_iload_n C 16 1 rfl dX0_turnsBy_15 rfl ?_
      refine s_icmp_ge C 36 19 rfl dX0_turnsBy_16 rfl (fun hc8 => ?_) (fun hc8 => ?_)
      · replace hf := ite_t hc8 hf
        refine s_iconst C 37 rfl dX0_turnsBy_36 ic_1 ?_
        obtain rfl := Option.some.inj hf
        exact s_zret C (fun i => i) hr hlk (Or.inr rfl) rfl rfl dX0_turnsBy_37
      · replace hf := ite_f hc8 hf
        refine s_aload_n C 20 0 rfl dX0_turnsBy_19 rfl ?_
        refine s_aload_n C 21 0 rfl dX0_turnsBy_20 rfl ?_
        refine s_get (C1 := RX0) (T := TX0) (N := 5) (ci := 0) C 24 0 3 uX0 rfl rfl (Nat.le_of_ble_eq_true rfl) uu51 rfl rfl rfl dX0_turnsBy_21 ?_
        obtain ⟨r6, q7, hf⟩ := bn_s hf
        refine s_callS0 (host := "") (rest := [.ref b0]) C 27 (c_X2_turned l D cI adK adV v4.2 r6 q7) (gS uu450 uu452 uu14 uu453) hd_X2_turned rfl ⟨rfl, rfl⟩ ⟨Nat.le_of_ble_eq_true rfl, Nat.le_of_ble_eq_true rfl⟩ ⟨Nat.le_of_ble_eq_true rfl, Nat.le_of_ble_eq_true rfl⟩ rfl (Nat.le_of_ble_eq_true rfl) rfl dX0_turnsBy_24 ?_
        refine s_put (C1 := RX0) (T := TX0) (N := 5) (ci := 0) (ty := tyX0 3) (ws1 := (wCore b0 b1 b2 cI o_heirs r6 o_bitten o_kinds o_figures)) C 30 0 3 uX0 tyX0 tyX0_ok nmX0 rfl rfl (Nat.le_of_ble_eq_true rfl) uu51 rfl rfl (tyX0_ok 3 (Nat.le_of_ble_eq_true rfl)) ⟨rfl, rfl⟩ (Nat.le_of_ble_eq_true rfl) rfl rfl dX0_turnsBy_27 ?_
        refine s_iinc (lv1 := [(2, .int (v4.1 + (1 : Int32))), (0, .ref b0), (1, .int a1)]) C 33 2 2 rfl dX0_turnsBy_30 rfl ic_1 (Nat.le_of_ble_eq_true rfl) rfl ?_
        refine s_goto C 14 dX0_turnsBy_33 rfl ?_
        exact s_lv [1, 2, 0] rfl (ih5 ((v4.1 + (1 : Int32), r6) : Int32 × Int32) hf)
    · replace hf := ite_f hc9 hf
      refine s_iconst C 11 rfl dX0_turnsBy_10 ic_0 ?_
      obtain rfl := Option.some.inj hf
      exact s_zret C (fun i => i) hr hlk (Or.inl rfl) rfl rfl dX0_turnsBy_11


theorem hd_X0_takesBite : yX0_takesBite.cls = RX0 ∧ yX0_takesBite.cls ≠ "java/lang/invoke/MethodHandle" ∧ yX0_takesBite.cls ≠ "java/lang/invoke/VarHandle" ∧ (parseMethodDescriptor yX0_takesBite.desc).map (fun d => d.parameters.length) = some 2 := by decide +kernel
set_option maxHeartbeats 4000000 in
set_option maxRecDepth 100000 in
theorem c_X0_takesBite (l : Launch) (D : va_G) (cI : ClassId) (adK adV : Nat → Nat) (b0 : Nat) (b1 : Nat) (b2 : Nat) (o_heirs : Int32) (o_left : Int32) (o_bitten : Int32) (o_kinds : (Nat → Int32)) (o_figures : (Nat → Int32)) (a1 : Int32) (a2 : Int32) (o : Int32 × Int32 × Int32) (hf : f_X0_takesBite o_left o_bitten a1 a2 = some o) : Ct l D cI adK adV yX0_takesBite (wy yX0_takesBite cX0_takesBite 4 (some .boolean)) { frames := 2, cells := 0, slots := 0, locals := 44 } 0 0 [.ref b0, .int a1, .int a2] (wCore b0 b1 b2 cI o_heirs o_left o_bitten o_kinds o_figures) (fun _ => (wCore b0 b1 b2 cI o_heirs o.2.1 o.2.2 o_kinds o_figures)) (some (.int o.1)) := by
  refine Ct.of (cc := cX0_takesBite) (nL := 4) (ret := (some .boolean)) (own := RX0) (by decide) (Nat.le_of_ble_eq_true rfl) rfl ?_
  intro p e s m args below meth c A C hr hlk hnm
  refine s_lv (lv1 := [(0, .ref b0), (1, .int a1), (2, .int a2)]) [0, 1, 2] rfl ?_
  unfold f_X0_takesBite at hf
  refine s_iload_n C 1 1 rfl dX0_takesBite_0 rfl ?_
  refine s_iload_n C 2 2 rfl dX0_takesBite_1 rfl ?_
  obtain ⟨r1, q2, hf⟩ := bn_s hf
  refine s_callS0 (host := "") (rest := []) C 5 (c_X2_cellsOf l D cI adK adV a1 a2 r1 q2) (gS uu426 uu428 uu14 uu429) hd_X2_cellsOf rfl ⟨rfl, rfl⟩ ⟨Nat.le_of_ble_eq_true rfl, Nat.le_of_ble_eq_true rfl⟩ ⟨Nat.le_of_ble_eq_true rfl, Nat.le_of_ble_eq_true rfl⟩ rfl (Nat.le_of_ble_eq_true rfl) rfl dX0_takesBite_2 ?_
  refine s_istore_n (lv1 := [(3, .int r1), (0, .ref b0), (1, .int a1), (2, .int a2)]) C 6 3 rfl dX0_takesBite_5 rfl (Nat.le_of_ble_eq_true rfl) rfl ?_
  refine s_iload_n C 7 0 rfl dX0_takesBite_6 rfl ?_
  refine s_if_eq C 20 10 rfl dX0_takesBite_7 rfl (fun hc4 => ?_) (fun hc4 => ?_)
  · replace hf := ite_t hc4 hf
    refine s_iconst C 21 rfl dX0_takesBite_20 ic_0 ?_
    obtain rfl := Option.some.inj hf
    exact s_zret C (fun i => i) hr hlk (Or.inl rfl) rfl rfl dX0_takesBite_21
  · replace hf := ite_f hc4 hf
    refine s_aload_n C 11 1 rfl dX0_takesBite_10 rfl ?_
    refine s_get (C1 := RX0) (T := TX0) (N := 5) (ci := 0) C 14 0 3 uX0 rfl rfl (Nat.le_of_ble_eq_true rfl) uu51 rfl rfl rfl dX0_takesBite_11 ?_
    refine s_iload_n C 15 0 rfl dX0_takesBite_14 rfl ?_
    refine s_iand C 16 rfl dX0_takesBite_15 ?_
    refine s_iload_n C 17 0 rfl dX0_takesBite_16 rfl ?_
    refine s_icmp_eq C 22 20 rfl dX0_takesBite_17 rfl (fun hc3 => ?_) (fun hc3 => ?_)
    · replace hf := ite_t hc3 hf
      refine s_aload_n C 23 1 rfl dX0_takesBite_22 rfl ?_
      refine s_dup C 24 rfl dX0_takesBite_23 rfl ?_
      refine s_get (C1 := RX0) (T := TX0) (N := 5) (ci := 0) C 27 0 3 uX0 rfl rfl (Nat.le_of_ble_eq_true rfl) uu51 rfl rfl rfl dX0_takesBite_24 ?_
      refine s_iload_n C 28 0 rfl dX0_takesBite_27 rfl ?_
      refine s_iconst C 29 rfl dX0_takesBite_28 ic_m1 ?_
      refine s_ixor C 30 rfl dX0_takesBite_29 ?_
      refine s_iand C 31 rfl dX0_takesBite_30 ?_
      refine s_put (C1 := RX0) (T := TX0) (N := 5) (ci := 0) (ty := tyX0 3) (ws1 := (wCore b0 b1 b2 cI o_heirs (o_left &&& (r1 ^^^ (-1 : Int32))) o_bitten o_kinds o_figures)) C 34 0 3 uX0 tyX0 tyX0_ok nmX0 rfl rfl (Nat.le_of_ble_eq_true rfl) uu51 rfl rfl (tyX0_ok 3 (Nat.le_of_ble_eq_true rfl)) ⟨rfl, rfl⟩ (Nat.le_of_ble_eq_true rfl) rfl rfl dX0_takesBite_31 ?_
      refine s_aload_n C 35 1 rfl dX0_takesBite_34 rfl ?_
      refine s_sipush C 38 rfl dX0_takesBite_35 sp_999 ?_
      refine s_aload_n C 39 1 rfl dX0_takesBite_38 rfl ?_
      refine s_get (C1 := RX0) (T := TX0) (N := 5) (ci := 0) C 42 0 4 uX0 rfl rfl (Nat.le_of_ble_eq_true rfl) uu55 rfl rfl rfl dX0_takesBite_39 ?_
      refine s_iconst C 43 rfl dX0_takesBite_42 ic_1 ?_
      refine s_iadd C 44 rfl dX0_takesBite_43 ?_
      refine s_mmin C 47 uu435 uu315 uu11 uu316 ⟨Nat.le_of_ble_eq_true rfl, Nat.le_of_ble_eq_true rfl, Nat.le_of_ble_eq_true rfl, Nat.le_of_ble_eq_true rfl⟩ rfl dX0_takesBite_44 ?_
      refine s_put (C1 := RX0) (T := TX0) (N := 5) (ci := 0) (ty := tyX0 4) (ws1 := (wCore b0 b1 b2 cI o_heirs (o_left &&& (r1 ^^^ (-1 : Int32))) (jmin (999 : Int32) (o_bitten + (1 : Int32))) o_kinds o_figures)) C 50 0 4 uX0 tyX0 tyX0_ok nmX0 rfl rfl (Nat.le_of_ble_eq_true rfl) uu55 rfl rfl (tyX0_ok 4 (Nat.le_of_ble_eq_true rfl)) ⟨rfl, rfl⟩ (Nat.le_of_ble_eq_true rfl) rfl rfl dX0_takesBite_47 ?_
      refine s_iconst C 51 rfl dX0_takesBite_50 ic_1 ?_
      obtain rfl := Option.some.inj hf
      exact s_zret C (fun i => i) hr hlk (Or.inr rfl) rfl rfl dX0_takesBite_51
    · replace hf := ite_f hc3 hf
      refine s_iconst C 21 rfl dX0_takesBite_20 ic_0 ?_
      obtain rfl := Option.some.inj hf
      exact s_zret C (fun i => i) hr hlk (Or.inl rfl) rfl rfl dX0_takesBite_21

