
theorem hd_X6_letter : yX6_letter.cls = RX6 ∧ yX6_letter.cls ≠ "java/lang/invoke/MethodHandle" ∧ yX6_letter.cls ≠ "java/lang/invoke/VarHandle" ∧ (parseMethodDescriptor yX6_letter.desc).map (fun d => d.parameters.length) = some 1 := by decide +kernel
set_option maxHeartbeats 4000000 in
set_option maxRecDepth 100000 in
theorem c_X6_letter (l : Launch) (D : va_G) (cI : ClassId) (adK adV : Nat → Nat) (ad : Nat → Nat) (m_left : Int32) (m_bites : Int32) (m_many : Int32) (m_imageLeft : Int32) (m_imageBites : Int32) (m_imageMany : Int32) (m_wasLeft : Int32) (m_wasBites : Int32) (m_wasMany : Int32) (m_hasImage : Int32) (m_letterMany : Int32) (m_rowMany : Int32) (m_place : Int32) (m_seed : Int32) (m_kind : (Nat → Int32)) (m_figure : (Nat → Int32)) (m_imageKind : (Nat → Int32)) (m_imageFigure : (Nat → Int32)) (m_wasKind : (Nat → Int32)) (m_wasFigure : (Nat → Int32)) (m_letters : (Nat → Int32)) (m_row : (Nat → Int32)) (m_refused : (Nat → Int32)) (m_numbers : (Nat → Int32)) (m_counted : (Nat → Int32)) (m_few : (Nat → Int32)) (a1 : Int32) (o : Int32 × Int32 × (Nat → Int32) × (Nat → Int32)) (hf : f_X6_letter m_letterMany m_letters m_refused a1 = some o) : Ct l D cI adK adV yX6_letter (wy yX6_letter cX6_letter 2 (some .int)) { frames := 1, cells := 0, slots := 0, locals := 21 } 0 0 [.ref (ad 0), .int a1] (wM ad cI m_left m_bites m_many m_imageLeft m_imageBites m_imageMany m_wasLeft m_wasBites m_wasMany m_hasImage m_letterMany m_rowMany m_place m_seed m_kind m_figure m_imageKind m_imageFigure m_wasKind m_wasFigure m_letters m_row m_refused m_numbers m_counted m_few) (fun _ => (wM ad cI m_left m_bites m_many m_imageLeft m_imageBites m_imageMany m_wasLeft m_wasBites m_wasMany m_hasImage o.2.1 m_rowMany m_place m_seed m_kind m_figure m_imageKind m_imageFigure m_wasKind m_wasFigure o.2.2.1 m_row o.2.2.2 m_numbers m_counted m_few)) (some (.int o.1)) := by
  refine Ct.of (cc := cX6_letter) (nL := 2) (ret := (some .int)) (own := RX6) (by decide) (Nat.le_of_ble_eq_true rfl) rfl ?_
  intro p e s m args below meth c A C hr hlk hnm
  refine s_lv (lv1 := [(0, .ref (ad 0)), (1, .int a1)]) [0, 1] rfl ?_
  unfold f_X6_letter at hf
  refine s_iload_n C 1 1 rfl dX6_letter_0 rfl ?_
  refine s_if_ge C 11 4 rfl dX6_letter_1 rfl (fun hc10 => ?_) (fun hc10 => ?_)
  · replace hf := ite_t hc10 hf
    refine s_iload_n C 12 1 rfl dX6_letter_11 rfl ?_
    refine s_sipush C 15 rfl dX6_letter_12 sp_255 ?_
    refine s_icmp_gt C 27 18 rfl dX6_letter_15 rfl (fun hc7 => ?_) (fun hc7 => ?_)
    · replace hf := ite_t hc7 hf
      refine s_aload_n C 28 0 rfl dX6_letter_27 rfl ?_
      refine s_bipush C 30 rfl dX6_letter_28 bp_m6 ?_
      obtain ⟨r1, q2, hf⟩ := bn_s hf
      refine s_callW (T := TX6) (N := 26) (ci := 5) (q0 := 0) (rest := []) C 33 (c_X6_no l D cI adK adV ad m_left m_bites m_many m_imageLeft m_imageBites m_imageMany m_wasLeft m_wasBites m_wasMany m_hasImage m_letterMany m_rowMany m_place m_seed m_kind m_figure m_imageKind m_imageFigure m_wasKind m_wasFigure m_letters m_row m_refused m_numbers m_counted m_few (-6 : Int32) r1 q2) (gV uu1070 uu1072 uu1571 uu6 uu1073) hd_X6_no rfl ⟨rfl, rfl⟩ ⟨Nat.le_of_ble_eq_true rfl, Nat.le_of_ble_eq_true rfl⟩ ⟨Nat.le_of_ble_eq_true rfl, Nat.le_of_ble_eq_true rfl⟩ rfl rfl rfl (Nat.le_of_ble_eq_true rfl) rfl dX6_letter_30 (fun _ => ?_)
      obtain rfl := Option.some.inj hf
      exact s_iret C (fun i => i) hr hlk rfl rfl dX6_letter_33
    · replace hf := ite_f hc7 hf
      refine s_aload_n C 19 0 rfl dX6_letter_18 rfl ?_
      refine s_get (C1 := RX6) (T := TX6) (N := 26) (ci := 5) C 22 0 19 uX6 rfl rfl (Nat.le_of_ble_eq_true rfl) uu1024 rfl rfl rfl dX6_letter_19 ?_
      refine s_bipush C 24 rfl dX6_letter_22 bp_96 ?_
      refine s_icmp_ne C 34 27 rfl dX6_letter_24 rfl (fun hc6 => ?_) (fun hc6 => ?_)
      · replace hf := ite_f hc6 hf
        refine s_aload_n C 35 0 rfl dX6_letter_34 rfl ?_
        refine s_get (C1 := RX6) (T := TX6) (N := 26) (ci := 5) C 38 0 16 uX6 rfl rfl (Nat.le_of_ble_eq_true rfl) uu1018 rfl rfl rfl dX6_letter_35 ?_
        refine s_aload_n C 39 0 rfl dX6_letter_38 rfl ?_
        refine s_get (C1 := RX6) (T := TX6) (N := 26) (ci := 5) C 42 0 19 uX6 rfl rfl (Nat.le_of_ble_eq_true rfl) uu1024 rfl rfl rfl dX6_letter_39 ?_
        refine s_iload_n C 43 1 rfl dX6_letter_42 rfl ?_
        obtain ⟨h3, hf⟩ := ck_in hf
        refine s_iast (ws1 := (wM ad cI m_left m_bites m_many m_imageLeft m_imageBites m_imageMany m_wasLeft m_wasBites m_wasMany m_hasImage m_letterMany m_rowMany m_place m_seed m_kind m_figure m_imageKind m_imageFigure m_wasKind m_wasFigure (upd m_letters m_letterMany.toNatClampNeg a1) m_row m_refused m_numbers m_counted m_few)) C 44 7 rfl h3 rfl rfl dX6_letter_43 ?_
        refine s_aload_n C 45 0 rfl dX6_letter_44 rfl ?_
        refine s_dup C 46 rfl dX6_letter_45 rfl ?_
        refine s_get (C1 := RX6) (T := TX6) (N := 26) (ci := 5) C 49 0 19 uX6 rfl rfl (Nat.le_of_ble_eq_true rfl) uu1024 rfl rfl rfl dX6_letter_46 ?_
        refine s_iconst C 50 rfl dX6_letter_49 ic_1 ?_
        refine s_iadd C 51 rfl dX6_letter_50 ?_
        refine s_put (C1 := RX6) (T := TX6) (N := 26) (ci := 5) (ty := tyX6 19) (ws1 := (wM ad cI m_left m_bites m_many m_imageLeft m_imageBites m_imageMany m_wasLeft m_wasBites m_wasMany m_hasImage (m_letterMany + (1 : Int32)) m_rowMany m_place m_seed m_kind m_figure m_imageKind m_imageFigure m_wasKind m_wasFigure (upd m_letters m_letterMany.toNatClampNeg a1) m_row m_refused m_numbers m_counted m_few)) C 54 0 19 uX6 tyX6 tyX6_ok nmX6 rfl rfl (Nat.le_of_ble_eq_true rfl) uu1024 rfl rfl (tyX6_ok 19 (Nat.le_of_ble_eq_true rfl)) ⟨rfl, rfl⟩ (Nat.le_of_ble_eq_true rfl) rfl rfl dX6_letter_51 ?_
        refine s_aload_n C 55 0 rfl dX6_letter_54 rfl ?_
        refine s_get (C1 := RX6) (T := TX6) (N := 26) (ci := 5) C 58 0 19 uX6 rfl rfl (Nat.le_of_ble_eq_true rfl) uu1024 rfl rfl rfl dX6_letter_55 ?_
        obtain rfl := Option.some.inj hf
        exact s_iret C (fun i => i) hr hlk rfl rfl dX6_letter_58
      · replace hf := ite_t hc6 hf
        refine s_aload_n C 28 0 rfl dX6_letter_27 rfl ?_
        refine s_bipush C 30 rfl dX6_letter_28 bp_m6 ?_
        obtain ⟨r4, q5, hf⟩ := bn_s hf
        refine s_callW (T := TX6) (N := 26) (ci := 5) (q0 := 0) (rest := []) C 33 (c_X6_no l D cI adK adV ad m_left m_bites m_many m_imageLeft m_imageBites m_imageMany m_wasLeft m_wasBites m_wasMany m_hasImage m_letterMany m_rowMany m_place m_seed m_kind m_figure m_imageKind m_imageFigure m_wasKind m_wasFigure m_letters m_row m_refused m_numbers m_counted m_few (-6 : Int32) r4 q5) (gV uu1070 uu1072 uu1571 uu6 uu1073) hd_X6_no rfl ⟨rfl, rfl⟩ ⟨Nat.le_of_ble_eq_true rfl, Nat.le_of_ble_eq_true rfl⟩ ⟨Nat.le_of_ble_eq_true rfl, Nat.le_of_ble_eq_true rfl⟩ rfl rfl rfl (Nat.le_of_ble_eq_true rfl) rfl dX6_letter_30 (fun _ => ?_)
        obtain rfl := Option.some.inj hf
        exact s_iret C (fun i => i) hr hlk rfl rfl dX6_letter_33
  · replace hf := ite_f hc10 hf
    refine s_aload_n C 5 0 rfl dX6_letter_4 rfl ?_
    refine s_bipush C 7 rfl dX6_letter_5 bp_m4 ?_
    obtain ⟨r8, q9, hf⟩ := bn_s hf
    refine s_callW (T := TX6) (N := 26) (ci := 5) (q0 := 0) (rest := []) C 10 (c_X6_no l D cI adK adV ad m_left m_bites m_many m_imageLeft m_imageBites m_imageMany m_wasLeft m_wasBites m_wasMany m_hasImage m_letterMany m_rowMany m_place m_seed m_kind m_figure m_imageKind m_imageFigure m_wasKind m_wasFigure m_letters m_row m_refused m_numbers m_counted m_few (-4 : Int32) r8 q9) (gV uu1070 uu1072 uu1571 uu6 uu1073) hd_X6_no rfl ⟨rfl, rfl⟩ ⟨Nat.le_of_ble_eq_true rfl, Nat.le_of_ble_eq_true rfl⟩ ⟨Nat.le_of_ble_eq_true rfl, Nat.le_of_ble_eq_true rfl⟩ rfl rfl rfl (Nat.le_of_ble_eq_true rfl) rfl dX6_letter_7 (fun _ => ?_)
    obtain rfl := Option.some.inj hf
    exact s_iret C (fun i => i) hr hlk rfl rfl dX6_letter_10


theorem hd_X6_core : yX6_core.cls = RX6 ∧ yX6_core.cls ≠ "java/lang/invoke/MethodHandle" ∧ yX6_core.cls ≠ "java/lang/invoke/VarHandle" ∧ (parseMethodDescriptor yX6_core.desc).map (fun d => d.parameters.length) = some 0 := by decide +kernel
set_option maxHeartbeats 4000000 in
set_option maxRecDepth 100000 in
theorem c_X6_core (l : Launch) (D : va_G) (cI : ClassId) (adK adV : Nat → Nat) (ad : Nat → Nat) (m_left : Int32) (m_bites : Int32) (m_many : Int32) (m_imageLeft : Int32) (m_imageBites : Int32) (m_imageMany : Int32) (m_wasLeft : Int32) (m_wasBites : Int32) (m_wasMany : Int32) (m_hasImage : Int32) (m_letterMany : Int32) (m_rowMany : Int32) (m_place : Int32) (m_seed : Int32) (m_kind : (Nat → Int32)) (m_figure : (Nat → Int32)) (m_imageKind : (Nat → Int32)) (m_imageFigure : (Nat → Int32)) (m_wasKind : (Nat → Int32)) (m_wasFigure : (Nat → Int32)) (m_letters : (Nat → Int32)) (m_row : (Nat → Int32)) (m_refused : (Nat → Int32)) (m_numbers : (Nat → Int32)) (m_counted : (Nat → Int32)) (m_few : (Nat → Int32))  (o : Int32 × Int32 × Int32 × Int32 × Int32 × Int32 × Int32 × Int32 × Int32 × (Nat → Int32) × (Nat → Int32) × (Nat → Int32) × (Nat → Int32) × (Nat → Int32)) (hf : f_X6_core m_left m_bites m_many m_letterMany m_kind m_figure m_wasKind m_wasFigure m_letters m_numbers = some o) : Ct l D cI adK adV yX6_core (wy yX6_core cX6_core 6 (some .int)) { frames := 3, cells := 0, slots := 0, locals := 69 } 0 0 [.ref (ad 0)] (wM ad cI m_left m_bites m_many m_imageLeft m_imageBites m_imageMany m_wasLeft m_wasBites m_wasMany m_hasImage m_letterMany m_rowMany m_place m_seed m_kind m_figure m_imageKind m_imageFigure m_wasKind m_wasFigure m_letters m_row m_refused m_numbers m_counted m_few) (fun _ => (wM ad cI o.2.1 o.2.2.1 o.2.2.2.1 m_imageLeft m_imageBites m_imageMany o.2.2.2.2.1 o.2.2.2.2.2.1 o.2.2.2.2.2.2.1 m_hasImage o.2.2.2.2.2.2.2.1 m_rowMany o.2.2.2.2.2.2.2.2.1 m_seed o.2.2.2.2.2.2.2.2.2.1 o.2.2.2.2.2.2.2.2.2.2.1 m_imageKind m_imageFigure o.2.2.2.2.2.2.2.2.2.2.2.1 o.2.2.2.2.2.2.2.2.2.2.2.2.1 m_letters m_row m_refused o.2.2.2.2.2.2.2.2.2.2.2.2.2 m_counted m_few)) (some (.int o.1)) := by
  refine Ct.of (cc := cX6_core) (nL := 6) (ret := (some .int)) (own := RX6) (by decide) (Nat.le_of_ble_eq_true rfl) rfl ?_
  intro p e s m args below meth c A C hr hlk hnm
  refine s_lv (lv1 := [(0, .ref (ad 0))]) [0] rfl ?_
  unfold f_X6_core at hf
  refine s_aload_n C 1 0 rfl dX6_core_0 rfl ?_
  refine s_iconst C 2 rfl dX6_core_1 ic_0 ?_
  refine s_put (C1 := RX6) (T := TX6) (N := 26) (ci := 5) (ty := tyX6 21) (ws1 := (wM ad cI m_left m_bites m_many m_imageLeft m_imageBites m_imageMany m_wasLeft m_wasBites m_wasMany m_hasImage m_letterMany m_rowMany (0 : Int32) m_seed m_kind m_figure m_imageKind m_imageFigure m_wasKind m_wasFigure m_letters m_row m_refused m_numbers m_counted m_few)) C 5 0 21 uX6 tyX6 tyX6_ok nmX6 rfl rfl (Nat.le_of_ble_eq_true rfl) uu1028 rfl rfl (tyX6_ok 21 (Nat.le_of_ble_eq_true rfl)) ⟨rfl, rfl⟩ (Nat.le_of_ble_eq_true rfl) rfl rfl dX6_core_2 ?_
  refine s_iconst C 6 rfl dX6_core_5 ic_0 ?_
  refine s_istore_n (lv1 := [(1, .int (0 : Int32)), (0, .ref (ad 0))]) C 7 1 rfl dX6_core_6 rfl (Nat.le_of_ble_eq_true rfl) rfl ?_
  refine s_bipush C 9 rfl dX6_core_7 bp_m9 ?_
  refine s_istore_n (lv1 := [(2, .int (-9 : Int32)), (1, .int (0 : Int32)), (0, .ref (ad 0))]) C 10 2 rfl dX6_core_9 rfl (Nat.le_of_ble_eq_true rfl) rfl ?_
  refine s_lv (lv1 := [(0, .ref (ad 0)), (1, .int (0 : Int32)), (2, .int (-9 : Int32))]) [2, 1, 0] rfl ?_
  refine s_kont (γ := Int32 × Int32 × Int32 × (Nat → Int32)) (o := o) (fun KQ => f_X6_core_10 m_letterMany m_letters KQ 1000 (0 : Int32) (-9 : Int32) (0 : Int32) m_numbers = some o) 46 (fun e8 => [(0, .ref (ad 0)), (1, .int e8.1), (2, .int e8.2.1)]) (fun e8 => []) (fun e8 => (wM ad cI m_left m_bites m_many m_imageLeft m_imageBites m_imageMany m_wasLeft m_wasBites m_wasMany m_hasImage m_letterMany m_rowMany e8.2.2.1 m_seed m_kind m_figure m_imageKind m_imageFigure m_wasKind m_wasFigure m_letters m_row m_refused e8.2.2.2 m_counted m_few)) hf (fun e8 hf => ?_) (fun k7 hk7 hf => ?_)
  · refine s_aload_n C 47 0 rfl dX6_core_46 rfl ?_
    obtain ⟨r9, q10, hf⟩ := bn_s hf
    refine s_callW (T := TX6) (N := 26) (ci := 5) (q0 := 0) (rest := []) C 50 (c_X6_lays l D cI adK adV ad m_left m_bites m_many m_imageLeft m_imageBites m_imageMany m_wasLeft m_wasBites m_wasMany m_hasImage m_letterMany m_rowMany e8.2.2.1 m_seed m_kind m_figure m_imageKind m_imageFigure m_wasKind m_wasFigure m_letters m_row m_refused e8.2.2.2 m_counted m_few r9 q10) (gV uu1111 uu1113 uu1576 uu6 uu1114) hd_X6_lays rfl ⟨rfl, rfl⟩ ⟨Nat.le_of_ble_eq_true rfl, Nat.le_of_ble_eq_true rfl⟩ ⟨Nat.le_of_ble_eq_true rfl, Nat.le_of_ble_eq_true rfl⟩ rfl rfl rfl (Nat.le_of_ble_eq_true rfl) rfl dX6_core_47 (fun _ => ?_)
    refine s_aload_n C 51 0 rfl dX6_core_50 rfl ?_
    refine s_iconst C 52 rfl dX6_core_51 ic_0 ?_
    refine s_put (C1 := RX6) (T := TX6) (N := 26) (ci := 5) (ty := tyX6 21) (ws1 := (wM ad cI m_left m_bites m_many m_imageLeft m_imageBites m_imageMany r9.1 r9.2.1 r9.2.2.1 m_hasImage m_letterMany m_rowMany (0 : Int32) m_seed m_kind m_figure m_imageKind m_imageFigure r9.2.2.2.1 r9.2.2.2.2 m_letters m_row m_refused e8.2.2.2 m_counted m_few)) C 55 0 21 uX6 tyX6 tyX6_ok nmX6 rfl rfl (Nat.le_of_ble_eq_true rfl) uu1028 rfl rfl (tyX6_ok 21 (Nat.le_of_ble_eq_true rfl)) ⟨rfl, rfl⟩ (Nat.le_of_ble_eq_true rfl) rfl rfl dX6_core_52 ?_
    refine s_kont (γ := Int32 × Int32 × Int32 × Int32 × Int32 × (Nat → Int32) × (Nat → Int32) × (Nat → Int32)) (o := o) (fun KQ => f_X6_core_55 r9.1 r9.2.1 r9.2.2.1 m_letterMany r9.2.2.2.1 r9.2.2.2.2 m_letters KQ 1000 e8.2.1 m_left m_bites m_many (0 : Int32) m_kind m_figure e8.2.2.2 = some o) 114 (fun e23 => [(0, .ref (ad 0)), (1, .int e8.1), (2, .int e23.1)]) (fun e23 => []) (fun e23 => (wM ad cI e23.2.1 e23.2.2.1 e23.2.2.2.1 m_imageLeft m_imageBites m_imageMany r9.1 r9.2.1 r9.2.2.1 m_hasImage m_letterMany m_rowMany e23.2.2.2.2.1 m_seed e23.2.2.2.2.2.1 e23.2.2.2.2.2.2.1 m_imageKind m_imageFigure r9.2.2.2.1 r9.2.2.2.2 m_letters m_row m_refused e23.2.2.2.2.2.2.2 m_counted m_few)) hf (fun e23 hf => ?_) (fun k22 hk22 hf => ?_)
    · refine s_aload_n C 115 0 rfl dX6_core_114 rfl ?_
      refine s_iconst C 116 rfl dX6_core_115 ic_0 ?_
      refine s_put (C1 := RX6) (T := TX6) (N := 26) (ci := 5) (ty := tyX6 19) (ws1 := (wM ad cI e23.2.1 e23.2.2.1 e23.2.2.2.1 m_imageLeft m_imageBites m_imageMany r9.1 r9.2.1 r9.2.2.1 m_hasImage (0 : Int32) m_rowMany e23.2.2.2.2.1 m_seed e23.2.2.2.2.2.1 e23.2.2.2.2.2.2.1 m_imageKind m_imageFigure r9.2.2.2.1 r9.2.2.2.2 m_letters m_row m_refused e23.2.2.2.2.2.2.2 m_counted m_few)) C 119 0 19 uX6 tyX6 tyX6_ok nmX6 rfl rfl (Nat.le_of_ble_eq_true rfl) uu1024 rfl rfl (tyX6_ok 19 (Nat.le_of_ble_eq_true rfl)) ⟨rfl, rfl⟩ (Nat.le_of_ble_eq_true rfl) rfl rfl dX6_core_116 ?_
      refine s_iload_n C 120 2 rfl dX6_core_119 rfl ?_
      refine s_bipush C 122 rfl dX6_core_120 bp_m9 ?_
      refine s_icmp_ne C 129 125 rfl dX6_core_122 rfl (fun hc24 => ?_) (fun hc24 => ?_)
      · replace hf := ite_f hc24 hf
        refine s_iload_n C 130 2 rfl dX6_core_129 rfl ?_
        obtain rfl := Option.some.inj hf
        exact s_iret C (fun i => i) hr hlk rfl rfl dX6_core_130
      · replace hf := ite_t hc24 hf
        refine s_iload_n C 126 1 rfl dX6_core_125 rfl ?_
        refine s_goto C 130 dX6_core_126 rfl ?_
        obtain rfl := Option.some.inj hf
        exact s_iret C (fun i => i) hr hlk rfl rfl dX6_core_130
    · skip
      refine s_loop (α := Int32 × Int32 × Int32 × Int32 × Int32 × (Nat → Int32) × (Nat → Int32) × (Nat → Int32)) (fun n v25 => f_X6_core_55 r9.1 r9.2.1 r9.2.2.1 m_letterMany r9.2.2.2.1 r9.2.2.2.2 m_letters k22 n v25.1 v25.2.1 v25.2.2.1 v25.2.2.2.1 v25.2.2.2.2.1 v25.2.2.2.2.2.1 v25.2.2.2.2.2.2.1 v25.2.2.2.2.2.2.2) 55 (fun v25 => [(0, .ref (ad 0)), (1, .int e8.1), (2, .int v25.1)]) (fun v25 => (wM ad cI v25.2.1 v25.2.2.1 v25.2.2.2.1 m_imageLeft m_imageBites m_imageMany r9.1 r9.2.1 r9.2.2.1 m_hasImage m_letterMany m_rowMany v25.2.2.2.2.1 m_seed v25.2.2.2.2.2.1 v25.2.2.2.2.2.2.1 m_imageKind m_imageFigure r9.2.2.2.1 r9.2.2.2.2 m_letters m_row m_refused v25.2.2.2.2.2.2.2 m_counted m_few)) 1000 (e8.2.1, m_left, m_bites, m_many, (0 : Int32), m_kind, m_figure, e8.2.2.2) hf (fun v25 hf => by simp only [f_X6_core_55] at hf; exact absurd hf (by simp)) (fun n ih26 v25 hf => ?_)
      replace hf := (f_X6_core_55_s _ _ _ _ _ _ _ _ _ _ _ _ _ _ _ _ _).symm.trans hf
      refine s_iload_n C 56 2 rfl dX6_core_55 rfl ?_
      refine s_bipush C 58 rfl dX6_core_56 bp_m9 ?_
      refine s_icmp_ne C 114 61 rfl dX6_core_58 rfl (fun hc37 => ?_) (fun hc37 => ?_)
      · replace hf := ite_f hc37 hf
        exact s_lv [0, 1, 2] rfl (hk22 ((v25.1, v25.2.1, v25.2.2.1, v25.2.2.2.1, v25.2.2.2.2.1, v25.2.2.2.2.2.1, v25.2.2.2.2.2.2.1, v25.2.2.2.2.2.2.2) : Int32 × Int32 × Int32 × Int32 × Int32 × (Nat → Int32) × (Nat → Int32) × (Nat → Int32)) hf)
      · replace hf := ite_t hc37 hf
        refine s_aload_n C 62 0 rfl dX6_core_61 rfl ?_
        refine s_get (C1 := RX6) (T := TX6) (N := 26) (ci := 5) C 65 0 21 uX6 rfl rfl (Nat.le_of_ble_eq_true rfl) uu1028 rfl rfl rfl dX6_core_62 ?_
        refine s_aload_n C 66 0 rfl dX6_core_65 rfl ?_
        refine s_get (C1 := RX6) (T := TX6) (N := 26) (ci := 5) C 69 0 19 uX6 rfl rfl (Nat.le_of_ble_eq_true rfl) uu1024 rfl rfl rfl dX6_core_66 ?_
        refine s_icmp_ge C 114 72 rfl dX6_core_69 rfl (fun hc36 => ?_) (fun hc36 => ?_)
        · replace hf := ite_t hc36 hf
          exact s_lv [0, 1, 2] rfl (hk22 ((v25.1, v25.2.1, v25.2.2.1, v25.2.2.2.1, v25.2.2.2.2.1, v25.2.2.2.2.2.1, v25.2.2.2.2.2.2.1, v25.2.2.2.2.2.2.2) : Int32 × Int32 × Int32 × Int32 × Int32 × (Nat → Int32) × (Nat → Int32) × (Nat → Int32)) hf)
        · replace hf := ite_f hc36 hf
          refine s_aload_n C 73 0 rfl dX6_core_72 rfl ?_
          refine s_get (C1 := RX6) (T := TX6) (N := 26) (ci := 5) C 76 0 21 uX6 rfl rfl (Nat.le_of_ble_eq_true rfl) uu1028 rfl rfl rfl dX6_core_73 ?_
          refine s_istore_n (lv1 := [(3, .int v25.2.2.2.2.1), (0, .ref (ad 0)), (1, .int e8.1), (2, .int v25.1)]) C 77 3 rfl dX6_core_76 rfl (Nat.le_of_ble_eq_true rfl) rfl ?_
          refine s_aload_n C 78 1 rfl dX6_core_77 rfl ?_
          obtain ⟨r27, q28, hf⟩ := bn_s hf
          refine s_callW (T := TX6) (N := 26) (ci := 5) (q0 := 0) (rest := []) C 81 (c_X6_here l D cI adK adV ad v25.2.1 v25.2.2.1 v25.2.2.2.1 m_imageLeft m_imageBites m_imageMany r9.1 r9.2.1 r9.2.2.1 m_hasImage m_letterMany m_rowMany v25.2.2.2.2.1 m_seed v25.2.2.2.2.2.1 v25.2.2.2.2.2.2.1 m_imageKind m_imageFigure r9.2.2.2.1 r9.2.2.2.2 m_letters m_row m_refused v25.2.2.2.2.2.2.2 m_counted m_few r27 q28) (gV uu1086 uu1088 uu1573 uu6 uu1089) hd_X6_here rfl ⟨rfl, rfl⟩ ⟨Nat.le_of_ble_eq_true rfl, Nat.le_of_ble_eq_true rfl⟩ ⟨Nat.le_of_ble_eq_true rfl, Nat.le_of_ble_eq_true rfl⟩ rfl rfl rfl (Nat.le_of_ble_eq_true rfl) rfl dX6_core_78 (fun _ => ?_)
          refine s_istore (lv1 := [(4, .int r27), (3, .int v25.2.2.2.2.1), (0, .ref (ad 0)), (1, .int e8.1), (2, .int v25.1)]) C 83 4 rfl dX6_core_81 (Nat.le_of_ble_eq_true rfl) rfl ?_
          refine s_aload_n C 84 2 rfl dX6_core_83 rfl ?_
          obtain ⟨r29, q30, hf⟩ := bn_s hf
          refine s_callW (T := TX6) (N := 26) (ci := 5) (q0 := 0) (rest := []) C 87 (c_X6_readsStatement l D cI adK adV ad v25.2.1 v25.2.2.1 v25.2.2.2.1 m_imageLeft m_imageBites m_imageMany r9.1 r9.2.1 r9.2.2.1 m_hasImage m_letterMany m_rowMany v25.2.2.2.2.1 m_seed v25.2.2.2.2.2.1 v25.2.2.2.2.2.2.1 m_imageKind m_imageFigure r9.2.2.2.1 r9.2.2.2.2 m_letters m_row m_refused v25.2.2.2.2.2.2.2 m_counted m_few r29 q30) (gV uu1081 uu1083 uu1572 uu6 uu1084) hd_X6_readsStatement rfl ⟨rfl, rfl⟩ ⟨Nat.le_of_ble_eq_true rfl, Nat.le_of_ble_eq_true rfl⟩ ⟨Nat.le_of_ble_eq_true rfl, Nat.le_of_ble_eq_true rfl⟩ rfl rfl rfl (Nat.le_of_ble_eq_true rfl) rfl dX6_core_84 (fun _ => ?_)
          refine s_istore (lv1 := [(5, .int r29.1), (4, .int r27), (3, .int v25.2.2.2.2.1), (0, .ref (ad 0)), (1, .int e8.1), (2, .int v25.1)]) C 89 5 rfl dX6_core_87 (Nat.le_of_ble_eq_true rfl) rfl ?_
          refine s_aload_n C 90 3 rfl dX6_core_89 rfl ?_
          refine s_iload C 92 1 rfl dX6_core_90 rfl ?_
          obtain ⟨r31, q32, hf⟩ := bn_s hf
          refine s_callW (T := TX6) (N := 26) (ci := 5) (q0 := 0) (rest := []) C 95 (c_X6_isDone l D cI adK adV ad v25.2.1 v25.2.2.1 v25.2.2.2.1 m_imageLeft m_imageBites m_imageMany r9.1 r9.2.1 r9.2.2.1 m_hasImage m_letterMany m_rowMany r29.2.1 m_seed v25.2.2.2.2.2.1 v25.2.2.2.2.2.2.1 m_imageKind m_imageFigure r9.2.2.2.1 r9.2.2.2.2 m_letters m_row m_refused r29.2.2 m_counted m_few r27 r31 q32) (gV uu1116 uu1118 uu1577 uu6 uu1119) hd_X6_isDone rfl ⟨rfl, rfl⟩ ⟨Nat.le_of_ble_eq_true rfl, Nat.le_of_ble_eq_true rfl⟩ ⟨Nat.le_of_ble_eq_true rfl, Nat.le_of_ble_eq_true rfl⟩ rfl rfl rfl (Nat.le_of_ble_eq_true rfl) rfl dX6_core_92 (fun _ => ?_)
          refine s_if_eq C 101 98 rfl dX6_core_95 rfl (fun hc35 => ?_) (fun hc35 => ?_)
          · replace hf := ite_t hc35 hf
            refine s_sipush C 104 rfl dX6_core_101 sp_m2000 ?_
            refine s_iload_n C 105 2 rfl dX6_core_104 rfl ?_
            refine s_isub C 106 rfl dX6_core_105 ?_
            refine s_istore_n (lv1 := [(2, .int ((-2000 : Int32) - v25.2.2.2.2.1)), (5, .int r29.1), (4, .int r27), (3, .int v25.2.2.2.2.1), (0, .ref (ad 0)), (1, .int e8.1)]) C 107 2 rfl dX6_core_106 rfl (Nat.le_of_ble_eq_true rfl) rfl ?_
            refine s_aload_n C 108 4 rfl dX6_core_107 rfl ?_
            obtain ⟨r33, q34, hf⟩ := bn_s hf
            refine s_callW (T := TX6) (N := 26) (ci := 5) (q0 := 0) (rest := []) C 111 (c_X6_laysBack l D cI adK adV ad r31.2.1 r31.2.2.1 r31.2.2.2.1 m_imageLeft m_imageBites m_imageMany r9.1 r9.2.1 r9.2.2.1 m_hasImage m_letterMany m_rowMany r29.2.1 m_seed r31.2.2.2.2.1 r31.2.2.2.2.2 m_imageKind m_imageFigure r9.2.2.2.1 r9.2.2.2.2 m_letters m_row m_refused r29.2.2 m_counted m_few r33 q34) (gV uu1161 uu1163 uu1580 uu6 uu1164) hd_X6_laysBack rfl ⟨rfl, rfl⟩ ⟨Nat.le_of_ble_eq_true rfl, Nat.le_of_ble_eq_true rfl⟩ ⟨Nat.le_of_ble_eq_true rfl, Nat.le_of_ble_eq_true rfl⟩ rfl rfl rfl (Nat.le_of_ble_eq_true rfl) rfl dX6_core_108 (fun _ => ?_)
            refine s_goto C 55 dX6_core_111 rfl ?_
            exact s_lv [4, 5, 0] rfl (ih26 (((-2000 : Int32) - v25.2.2.2.2.1, r33.1, r33.2.1, r33.2.2.1, r29.2.1, r33.2.2.2.1, r33.2.2.2.2, r29.2.2) : Int32 × Int32 × Int32 × Int32 × Int32 × (Nat → Int32) × (Nat → Int32) × (Nat → Int32)) hf)
          · replace hf := ite_f hc35 hf
            refine s_goto C 55 dX6_core_98 rfl ?_
            exact s_lv [3, 4, 5] rfl (ih26 ((v25.1, r31.2.1, r31.2.2.1, r31.2.2.2.1, r29.2.1, r31.2.2.2.2.1, r31.2.2.2.2.2, r29.2.2) : Int32 × Int32 × Int32 × Int32 × Int32 × (Nat → Int32) × (Nat → Int32) × (Nat → Int32)) hf)
  · skip
    refine s_loop (α := Int32 × Int32 × Int32 × (Nat → Int32)) (fun n v38 => f_X6_core_10 m_letterMany m_letters k7 n v38.1 v38.2.1 v38.2.2.1 v38.2.2.2) 10 (fun v38 => [(0, .ref (ad 0)), (1, .int v38.1), (2, .int v38.2.1)]) (fun v38 => (wM ad cI m_left m_bites m_many m_imageLeft m_imageBites m_imageMany m_wasLeft m_wasBites m_wasMany m_hasImage m_letterMany m_rowMany v38.2.2.1 m_seed m_kind m_figure m_imageKind m_imageFigure m_wasKind m_wasFigure m_letters m_row m_refused v38.2.2.2 m_counted m_few)) 1000 ((0 : Int32), (-9 : Int32), (0 : Int32), m_numbers) hf (fun v38 hf => by simp only [f_X6_core_10] at hf; exact absurd hf (by simp)) (fun n ih39 v38 hf => ?_)
    replace hf := (f_X6_core_10_s _ _ _ _ _ _ _ _).symm.trans hf
    refine s_aload_n C 11 0 rfl dX6_core_10 rfl ?_
    obtain ⟨r40, q41, hf⟩ := bn_s hf
    refine s_callW (T := TX6) (N := 26) (ci := 5) (q0 := 0) (rest := []) C 14 (c_X6_readsStatement l D cI adK adV ad m_left m_bites m_many m_imageLeft m_imageBites m_imageMany m_wasLeft m_wasBites m_wasMany m_hasImage m_letterMany m_rowMany v38.2.2.1 m_seed m_kind m_figure m_imageKind m_imageFigure m_wasKind m_wasFigure m_letters m_row m_refused v38.2.2.2 m_counted m_few r40 q41) (gV uu1081 uu1083 uu1572 uu6 uu1084) hd_X6_readsStatement rfl ⟨rfl, rfl⟩ ⟨Nat.le_of_ble_eq_true rfl, Nat.le_of_ble_eq_true rfl⟩ ⟨Nat.le_of_ble_eq_true rfl, Nat.le_of_ble_eq_true rfl⟩ rfl rfl rfl (Nat.le_of_ble_eq_true rfl) rfl dX6_core_11 (fun _ => ?_)
    refine s_jn (α := Int32) 26 (fun j42 => [(0, .ref (ad 0)), (1, .int v38.1), (2, .int j42)]) (fun j42 => []) (fun j42 => (wM ad cI m_left m_bites m_many m_imageLeft m_imageBites m_imageMany m_wasLeft m_wasBites m_wasMany m_hasImage m_letterMany m_rowMany r40.2.1 m_seed m_kind m_figure m_imageKind m_imageFigure m_wasKind m_wasFigure m_letters m_row m_refused r40.2.2 m_counted m_few)) hf (fun j42 hf => ?_) (fun hj hf => ?_)
    · refine s_iinc (lv1 := [(1, .int (v38.1 + (1 : Int32))), (0, .ref (ad 0)), (2, .int j42)]) C 29 1 1 rfl dX6_core_26 rfl ic_1 (Nat.le_of_ble_eq_true rfl) rfl ?_
      refine s_iload_n C 30 2 rfl dX6_core_29 rfl ?_
      refine s_bipush C 32 rfl dX6_core_30 bp_m9 ?_
      refine s_icmp_ne C 46 35 rfl dX6_core_32 rfl (fun hc45 => ?_) (fun hc45 => ?_)
      · replace hf := ite_f hc45 hf
        exact s_lv [1, 0, 2] rfl (hk7 ((v38.1 + (1 : Int32), j42, r40.2.1, r40.2.2) : Int32 × Int32 × Int32 × (Nat → Int32)) hf)
      · replace hf := ite_t hc45 hf
        refine s_aload_n C 36 1 rfl dX6_core_35 rfl ?_
        refine s_get (C1 := RX6) (T := TX6) (N := 26) (ci := 5) C 39 0 21 uX6 rfl rfl (Nat.le_of_ble_eq_true rfl) uu1028 rfl rfl rfl dX6_core_36 ?_
        refine s_aload_n C 40 1 rfl dX6_core_39 rfl ?_
        refine s_get (C1 := RX6) (T := TX6) (N := 26) (ci := 5) C 43 0 19 uX6 rfl rfl (Nat.le_of_ble_eq_true rfl) uu1024 rfl rfl rfl dX6_core_40 ?_
        refine s_icmp_lt C 10 46 rfl dX6_core_43 rfl (fun hc44 => ?_) (fun hc44 => ?_)
        · replace hf := ite_t hc44 hf
          exact s_lv [1, 0, 2] rfl (ih39 ((v38.1 + (1 : Int32), j42, r40.2.1, r40.2.2) : Int32 × Int32 × Int32 × (Nat → Int32)) hf)
        · replace hf := ite_f hc44 hf
          exact s_lv [1, 0, 2] rfl (hk7 ((v38.1 + (1 : Int32), j42, r40.2.1, r40.2.2) : Int32 × Int32 × Int32 × (Nat → Int32)) hf)
    · refine s_if_ne C 26 17 rfl dX6_core_14 rfl (fun hc43 => ?_) (fun hc43 => ?_)
      · replace hf := jn_f hc43 hf
        replace hf := jn_i hf
        exact s_lv [0, 1, 2] rfl (hj (v38.2.1 : Int32) hf)
      · replace hf := jn_t hc43 hf
        refine s_sipush C 20 rfl dX6_core_17 sp_m1000 ?_
        refine s_aload_n C 21 0 rfl dX6_core_20 rfl ?_
        refine s_get (C1 := RX6) (T := TX6) (N := 26) (ci := 5) C 24 0 21 uX6 rfl rfl (Nat.le_of_ble_eq_true rfl) uu1028 rfl rfl rfl dX6_core_21 ?_
        refine s_isub C 25 rfl dX6_core_24 ?_
        refine s_istore_n (lv1 := [(2, .int ((-1000 : Int32) - r40.2.1)), (0, .ref (ad 0)), (1, .int v38.1)]) C 26 2 rfl dX6_core_25 rfl (Nat.le_of_ble_eq_true rfl) rfl ?_
        replace hf := jn_i hf
        exact s_lv [1, 2, 0] rfl (hj ((-1000 : Int32) - r40.2.1 : Int32) hf)

theorem sw_out_X6_cell_14 {x : Int32} (h0 : ¬ x = (0 : Int32)) (h1 : ¬ x = (1 : Int32)) (h2 : ¬ x = (2 : Int32)) : x.toInt < 0 ∨ 2 < x.toInt := by
  have e0 := ne_toInt h0
  rw [show ((0 : Int32) : Int32).toInt = 0 from by decide] at e0
  have e1 := ne_toInt h1
  rw [show ((1 : Int32) : Int32).toInt = 1 from by decide] at e1
  have e2 := ne_toInt h2
  rw [show ((2 : Int32) : Int32).toInt = 2 from by decide] at e2
  omega
theorem hd_X6_cell : yX6_cell.cls = RX6 ∧ yX6_cell.cls ≠ "java/lang/invoke/MethodHandle" ∧ yX6_cell.cls ≠ "java/lang/invoke/VarHandle" ∧ (parseMethodDescriptor yX6_cell.desc).map (fun d => d.parameters.length) = some 2 := by decide +kernel
set_option maxHeartbeats 4000000 in
set_option maxRecDepth 100000 in
theorem c_X6_cell (l : Launch) (D : va_G) (cI : ClassId) (adK adV : Nat → Nat) (ad : Nat → Nat) (m_left : Int32) (m_bites : Int32) (m_many : Int32) (m_imageLeft : Int32) (m_imageBites : Int32) (m_imageMany : Int32) (m_wasLeft : Int32) (m_wasBites : Int32) (m_wasMany : Int32) (m_hasImage : Int32) (m_letterMany : Int32) (m_rowMany : Int32) (m_place : Int32) (m_seed : Int32) (m_kind : (Nat → Int32)) (m_figure : (Nat → Int32)) (m_imageKind : (Nat → Int32)) (m_imageFigure : (Nat → Int32)) (m_wasKind : (Nat → Int32)) (m_wasFigure : (Nat → Int32)) (m_letters : (Nat → Int32)) (m_row : (Nat → Int32)) (m_refused : (Nat → Int32)) (m_numbers : (Nat → Int32)) (m_counted : (Nat → Int32)) (m_few : (Nat → Int32)) (a1 : Int32) (a2 : Int32) (o : Int32 × (Nat → Int32)) (hf : f_X6_cell m_left m_refused a1 a2 = some o) : Ct l D cI adK adV yX6_cell (wy yX6_cell cX6_cell 3 (some .int)) { frames := 2, cells := 0, slots := 0, locals := 45 } 0 0 [.ref (ad 0), .int a1, .int a2] (wM ad cI m_left m_bites m_many m_imageLeft m_imageBites m_imageMany m_wasLeft m_wasBites m_wasMany m_hasImage m_letterMany m_rowMany m_place m_seed m_kind m_figure m_imageKind m_imageFigure m_wasKind m_wasFigure m_letters m_row m_refused m_numbers m_counted m_few) (fun _ => (wM ad cI m_left m_bites m_many m_imageLeft m_imageBites m_imageMany m_wasLeft m_wasBites m_wasMany m_hasImage m_letterMany m_rowMany m_place m_seed m_kind m_figure m_imageKind m_imageFigure m_wasKind m_wasFigure m_letters m_row o.2 m_numbers m_counted m_few)) (some (.int o.1)) := by
  refine Ct.of (cc := cX6_cell) (nL := 3) (ret := (some .int)) (own := RX6) (by decide) (Nat.le_of_ble_eq_true rfl) rfl ?_
  intro p e s m args below meth c A C hr hlk hnm
  refine s_lv (lv1 := [(0, .ref (ad 0)), (1, .int a1), (2, .int a2)]) [0, 1, 2] rfl ?_
  unfold f_X6_cell at hf
  refine s_iload_n C 1 1 rfl dX6_cell_0 rfl ?_
  obtain ⟨r1, q2, hf⟩ := bn_s hf
  refine s_callS0 (host := "") (rest := []) C 4 (c_X6_isCell l D cI adK adV a1 r1 q2) (gS uu1121 uu1123 uu6 uu1124) hd_X6_isCell rfl ⟨rfl, rfl⟩ ⟨Nat.le_of_ble_eq_true rfl, Nat.le_of_ble_eq_true rfl⟩ ⟨Nat.le_of_ble_eq_true rfl, Nat.le_of_ble_eq_true rfl⟩ rfl (Nat.le_of_ble_eq_true rfl) rfl dX6_cell_1 ?_
  refine s_if_ne C 13 7 rfl dX6_cell_4 rfl (fun hc20 => ?_) (fun hc20 => ?_)
  · replace hf := ite_f hc20 hf
    refine s_iload_n C 14 2 rfl dX6_cell_13 rfl ?_
    by_cases hc3 : a2 = (0 : Int32)
    · replace hf := ite_t hc3 hf
      refine s_tableIn (off := 26) C 40 dX6_cell_14 (by rw [hc3]; decide) (by rw [hc3]; decide) (by rw [hc3]; rfl) rfl ?_
      refine s_aload_n C 41 0 rfl dX6_cell_40 rfl ?_
      refine s_get (C1 := RX6) (T := TX6) (N := 26) (ci := 5) C 44 0 0 uX6 rfl rfl (Nat.le_of_ble_eq_true rfl) uu986 rfl rfl rfl dX6_cell_41 ?_
      refine s_iload_n C 45 1 rfl dX6_cell_44 rfl ?_
      refine s_ishr C 46 rfl dX6_cell_45 ?_
      refine s_iconst C 47 rfl dX6_cell_46 ic_1 ?_
      refine s_iand C 48 rfl dX6_cell_47 ?_
      obtain rfl := Option.some.inj hf
      exact s_iret C (fun i => i) hr hlk rfl rfl dX6_cell_48
    · replace hf := ite_f hc3 hf
      by_cases hc8 : a2 = (1 : Int32)
      · replace hf := ite_t hc8 hf
        refine s_tableIn (off := 35) C 49 dX6_cell_14 (by rw [hc8]; decide) (by rw [hc8]; decide) (by rw [hc8]; rfl) rfl ?_
        refine s_iconst C 50 rfl dX6_cell_49 ic_1 ?_
        refine s_iload_n C 51 1 rfl dX6_cell_50 rfl ?_
        refine s_ishl C 52 rfl dX6_cell_51 ?_
        obtain ⟨r4, q5, hf⟩ := bn_s hf
        refine s_callS0 (host := "") (rest := []) C 55 (c_X6_besideOf l D cI adK adV (jshl (1 : Int32) a1) r4 q5) (gS uu1172 uu1174 uu6 uu1175) hd_X6_besideOf rfl ⟨rfl, rfl⟩ ⟨Nat.le_of_ble_eq_true rfl, Nat.le_of_ble_eq_true rfl⟩ ⟨Nat.le_of_ble_eq_true rfl, Nat.le_of_ble_eq_true rfl⟩ rfl (Nat.le_of_ble_eq_true rfl) rfl dX6_cell_52 ?_
        refine s_aload_n C 56 0 rfl dX6_cell_55 rfl ?_
        refine s_get (C1 := RX6) (T := TX6) (N := 26) (ci := 5) C 59 0 0 uX6 rfl rfl (Nat.le_of_ble_eq_true rfl) uu986 rfl rfl rfl dX6_cell_56 ?_
        refine s_iand C 60 rfl dX6_cell_59 ?_
        obtain ⟨r6, q7, hf⟩ := bn_s hf
        refine s_callS0 (host := "") (rest := []) C 63 (c_X6_bits l D cI adK adV (r4 &&& m_left) r6 q7) (gS uu1177 uu1179 uu6 uu1180) hd_X6_bits rfl ⟨rfl, rfl⟩ ⟨Nat.le_of_ble_eq_true rfl, Nat.le_of_ble_eq_true rfl⟩ ⟨Nat.le_of_ble_eq_true rfl, Nat.le_of_ble_eq_true rfl⟩ rfl (Nat.le_of_ble_eq_true rfl) rfl dX6_cell_60 ?_
        obtain rfl := Option.some.inj hf
        exact s_iret C (fun i => i) hr hlk rfl rfl dX6_cell_63
      · replace hf := ite_f hc8 hf
        by_cases hc13 : a2 = (2 : Int32)
        · replace hf := ite_t hc13 hf
          refine s_tableIn (off := 50) C 64 dX6_cell_14 (by rw [hc13]; decide) (by rw [hc13]; decide) (by rw [hc13]; rfl) rfl ?_
          refine s_aload_n C 65 0 rfl dX6_cell_64 rfl ?_
          refine s_get (C1 := RX6) (T := TX6) (N := 26) (ci := 5) C 68 0 0 uX6 rfl rfl (Nat.le_of_ble_eq_true rfl) uu986 rfl rfl rfl dX6_cell_65 ?_
          refine s_iload_n C 69 1 rfl dX6_cell_68 rfl ?_
          obtain ⟨r9, q10, hf⟩ := bn_s hf
          refine s_callS0 (host := "") (rest := []) C 72 (c_X6_heapOf l D cI adK adV m_left a1 r9 q10) (gS uu1182 uu1184 uu6 uu1185) hd_X6_heapOf rfl ⟨rfl, rfl⟩ ⟨Nat.le_of_ble_eq_true rfl, Nat.le_of_ble_eq_true rfl⟩ ⟨Nat.le_of_ble_eq_true rfl, Nat.le_of_ble_eq_true rfl⟩ rfl (Nat.le_of_ble_eq_true rfl) rfl dX6_cell_69 ?_
          obtain ⟨r11, q12, hf⟩ := bn_s hf
          refine s_callS0 (host := "") (rest := []) C 75 (c_X6_bits l D cI adK adV r9 r11 q12) (gS uu1177 uu1179 uu6 uu1180) hd_X6_bits rfl ⟨rfl, rfl⟩ ⟨Nat.le_of_ble_eq_true rfl, Nat.le_of_ble_eq_true rfl⟩ ⟨Nat.le_of_ble_eq_true rfl, Nat.le_of_ble_eq_true rfl⟩ rfl (Nat.le_of_ble_eq_true rfl) rfl dX6_cell_72 ?_
          obtain rfl := Option.some.inj hf
          exact s_iret C (fun i => i) hr hlk rfl rfl dX6_cell_75
        · replace hf := ite_f hc13 hf
          refine s_tableOut C 76 dX6_cell_14 (sw_out_X6_cell_14 hc3 hc8 hc13) rfl ?_
          refine s_aload_n C 77 0 rfl dX6_cell_76 rfl ?_
          refine s_bipush C 79 rfl dX6_cell_77 bp_m2 ?_
          obtain ⟨r14, q15, hf⟩ := bn_s hf
          refine s_callW (T := TX6) (N := 26) (ci := 5) (q0 := 0) (rest := []) C 82 (c_X6_no l D cI adK adV ad m_left m_bites m_many m_imageLeft m_imageBites m_imageMany m_wasLeft m_wasBites m_wasMany m_hasImage m_letterMany m_rowMany m_place m_seed m_kind m_figure m_imageKind m_imageFigure m_wasKind m_wasFigure m_letters m_row m_refused m_numbers m_counted m_few (-2 : Int32) r14 q15) (gV uu1070 uu1072 uu1571 uu6 uu1073) hd_X6_no rfl ⟨rfl, rfl⟩ ⟨Nat.le_of_ble_eq_true rfl, Nat.le_of_ble_eq_true rfl⟩ ⟨Nat.le_of_ble_eq_true rfl, Nat.le_of_ble_eq_true rfl⟩ rfl rfl rfl (Nat.le_of_ble_eq_true rfl) rfl dX6_cell_79 (fun _ => ?_)
          obtain rfl := Option.some.inj hf
          exact s_iret C (fun i => i) hr hlk rfl rfl dX6_cell_82
  · replace hf := ite_t hc20 hf
    refine s_aload_n C 8 0 rfl dX6_cell_7 rfl ?_
    refine s_iconst C 9 rfl dX6_cell_8 ic_m1 ?_
    obtain ⟨r18, q19, hf⟩ := bn_s hf
    refine s_callW (T := TX6) (N := 26) (ci := 5) (q0 := 0) (rest := []) C 12 (c_X6_no l D cI adK adV ad m_left m_bites m_many m_imageLeft m_imageBites m_imageMany m_wasLeft m_wasBites m_wasMany m_hasImage m_letterMany m_rowMany m_place m_seed m_kind m_figure m_imageKind m_imageFigure m_wasKind m_wasFigure m_letters m_row m_refused m_numbers m_counted m_few (-1 : Int32) r18 q19) (gV uu1070 uu1072 uu1571 uu6 uu1073) hd_X6_no rfl ⟨rfl, rfl⟩ ⟨Nat.le_of_ble_eq_true rfl, Nat.le_of_ble_eq_true rfl⟩ ⟨Nat.le_of_ble_eq_true rfl, Nat.le_of_ble_eq_true rfl⟩ rfl rfl rfl (Nat.le_of_ble_eq_true rfl) rfl dX6_cell_9 (fun _ => ?_)
    obtain rfl := Option.some.inj hf
    exact s_iret C (fun i => i) hr hlk rfl rfl dX6_cell_12


theorem hd_X6_heir : yX6_heir.cls = RX6 ∧ yX6_heir.cls ≠ "java/lang/invoke/MethodHandle" ∧ yX6_heir.cls ≠ "java/lang/invoke/VarHandle" ∧ (parseMethodDescriptor yX6_heir.desc).map (fun d => d.parameters.length) = some 2 := by decide +kernel
set_option maxHeartbeats 4000000 in
set_option maxRecDepth 100000 in
theorem c_X6_heir (l : Launch) (D : va_G) (cI : ClassId) (adK adV : Nat → Nat) (ad : Nat → Nat) (m_left : Int32) (m_bites : Int32) (m_many : Int32) (m_imageLeft : Int32) (m_imageBites : Int32) (m_imageMany : Int32) (m_wasLeft : Int32) (m_wasBites : Int32) (m_wasMany : Int32) (m_hasImage : Int32) (m_letterMany : Int32) (m_rowMany : Int32) (m_place : Int32) (m_seed : Int32) (m_kind : (Nat → Int32)) (m_figure : (Nat → Int32)) (m_imageKind : (Nat → Int32)) (m_imageFigure : (Nat → Int32)) (m_wasKind : (Nat → Int32)) (m_wasFigure : (Nat → Int32)) (m_letters : (Nat → Int32)) (m_row : (Nat → Int32)) (m_refused : (Nat → Int32)) (m_numbers : (Nat → Int32)) (m_counted : (Nat → Int32)) (m_few : (Nat → Int32)) (a1 : Int32) (a2 : Int32) (o : Int32 × (Nat → Int32)) (hf : f_X6_heir m_left m_many m_kind m_figure m_refused a1 a2 = some o) : Ct l D cI adK adV yX6_heir (wy yX6_heir cX6_heir 3 (some .int)) { frames := 5, cells := 0, slots := 0, locals := 117 } 0 0 [.ref (ad 0), .int a1, .int a2] (wM ad cI m_left m_bites m_many m_imageLeft m_imageBites m_imageMany m_wasLeft m_wasBites m_wasMany m_hasImage m_letterMany m_rowMany m_place m_seed m_kind m_figure m_imageKind m_imageFigure m_wasKind m_wasFigure m_letters m_row m_refused m_numbers m_counted m_few) (fun _ => (wM ad cI m_left m_bites m_many m_imageLeft m_imageBites m_imageMany m_wasLeft m_wasBites m_wasMany m_hasImage m_letterMany m_rowMany m_place m_seed m_kind m_figure m_imageKind m_imageFigure m_wasKind m_wasFigure m_letters m_row o.2 m_numbers m_counted m_few)) (some (.int o.1)) := by
  refine Ct.of (cc := cX6_heir) (nL := 3) (ret := (some .int)) (own := RX6) (by decide) (Nat.le_of_ble_eq_true rfl) rfl ?_
  intro p e s m args below meth c A C hr hlk hnm
  refine s_lv (lv1 := [(0, .ref (ad 0)), (1, .int a1), (2, .int a2)]) [0, 1, 2] rfl ?_
  unfold f_X6_heir at hf
  refine s_aload_n C 1 0 rfl dX6_heir_0 rfl ?_
  refine s_iload_n C 2 1 rfl dX6_heir_1 rfl ?_
  obtain ⟨r1, q2, hf⟩ := bn_s hf
  refine s_callW (T := TX6) (N := 26) (ci := 5) (q0 := 0) (rest := []) C 5 (c_X6_isHeir l D cI adK adV ad m_left m_bites m_many m_imageLeft m_imageBites m_imageMany m_wasLeft m_wasBites m_wasMany m_hasImage m_letterMany m_rowMany m_place m_seed m_kind m_figure m_imageKind m_imageFigure m_wasKind m_wasFigure m_letters m_row m_refused m_numbers m_counted m_few a1 r1 q2) (gV uu1193 uu1195 uu1581 uu6 uu1196) hd_X6_isHeir rfl ⟨rfl, rfl⟩ ⟨Nat.le_of_ble_eq_true rfl, Nat.le_of_ble_eq_true rfl⟩ ⟨Nat.le_of_ble_eq_true rfl, Nat.le_of_ble_eq_true rfl⟩ rfl rfl rfl (Nat.le_of_ble_eq_true rfl) rfl dX6_heir_2 (fun _ => ?_)
  refine s_if_ne C 14 8 rfl dX6_heir_5 rfl (fun hc14 => ?_) (fun hc14 => ?_)
  · replace hf := ite_f hc14 hf
    refine s_iload_n C 15 2 rfl dX6_heir_14 rfl ?_
    refine s_if_ne C 27 18 rfl dX6_heir_15 rfl (fun hc11 => ?_) (fun hc11 => ?_)
    · replace hf := ite_f hc11 hf
      refine s_iload_n C 28 2 rfl dX6_heir_27 rfl ?_
      refine s_iconst C 29 rfl dX6_heir_28 ic_1 ?_
      refine s_icmp_ne C 41 32 rfl dX6_heir_29 rfl (fun hc9 => ?_) (fun hc9 => ?_)
      · replace hf := ite_f hc9 hf
        refine s_iload_n C 42 2 rfl dX6_heir_41 rfl ?_
        refine s_iconst C 43 rfl dX6_heir_42 ic_2 ?_
        refine s_icmp_ne C 58 46 rfl dX6_heir_43 rfl (fun hc7 => ?_) (fun hc7 => ?_)
        · replace hf := ite_f hc7 hf
          refine s_aload_n C 59 0 rfl dX6_heir_58 rfl ?_
          refine s_bipush C 61 rfl dX6_heir_59 bp_m2 ?_
          obtain ⟨r3, q4, hf⟩ := bn_s hf
          refine s_callW (T := TX6) (N := 26) (ci := 5) (q0 := 0) (rest := []) C 64 (c_X6_no l D cI adK adV ad m_left m_bites m_many m_imageLeft m_imageBites m_imageMany m_wasLeft m_wasBites m_wasMany m_hasImage m_letterMany m_rowMany m_place m_seed m_kind m_figure m_imageKind m_imageFigure m_wasKind m_wasFigure m_letters m_row m_refused m_numbers m_counted m_few (-2 : Int32) r3 q4) (gV uu1070 uu1072 uu1571 uu6 uu1073) hd_X6_no rfl ⟨rfl, rfl⟩ ⟨Nat.le_of_ble_eq_true rfl, Nat.le_of_ble_eq_true rfl⟩ ⟨Nat.le_of_ble_eq_true rfl, Nat.le_of_ble_eq_true rfl⟩ rfl rfl rfl (Nat.le_of_ble_eq_true rfl) rfl dX6_heir_61 (fun _ => ?_)
          obtain rfl := Option.some.inj hf
          exact s_iret C (fun i => i) hr hlk rfl rfl dX6_heir_64
        · replace hf := ite_t hc7 hf
          refine s_aload_n C 47 0 rfl dX6_heir_46 rfl ?_
          refine s_aload_n C 48 0 rfl dX6_heir_47 rfl ?_
          refine s_get (C1 := RX6) (T := TX6) (N := 26) (ci := 5) C 51 0 0 uX6 rfl rfl (Nat.le_of_ble_eq_true rfl) uu986 rfl rfl rfl dX6_heir_48 ?_
          refine s_iload_n C 52 1 rfl dX6_heir_51 rfl ?_
          obtain ⟨r5, q6, hf⟩ := bn_s hf
          refine s_callW (T := TX6) (N := 26) (ci := 5) (q0 := 0) (rest := []) C 55 (c_X6_shareOf l D cI adK adV ad m_left m_bites m_many m_imageLeft m_imageBites m_imageMany m_wasLeft m_wasBites m_wasMany m_hasImage m_letterMany m_rowMany m_place m_seed m_kind m_figure m_imageKind m_imageFigure m_wasKind m_wasFigure m_letters m_row m_refused m_numbers m_counted m_few m_left a1 r5 q6) (gV uu1198 uu1200 uu1582 uu6 uu1201) hd_X6_shareOf rfl ⟨rfl, rfl⟩ ⟨Nat.le_of_ble_eq_true rfl, Nat.le_of_ble_eq_true rfl⟩ ⟨Nat.le_of_ble_eq_true rfl, Nat.le_of_ble_eq_true rfl⟩ rfl rfl rfl (Nat.le_of_ble_eq_true rfl) rfl dX6_heir_52 (fun _ => ?_)
          refine s_goto C 64 dX6_heir_55 rfl ?_
          obtain rfl := Option.some.inj hf
          exact s_iret C (fun i => i) hr hlk rfl rfl dX6_heir_64
      · replace hf := ite_t hc9 hf
        refine s_aload_n C 33 0 rfl dX6_heir_32 rfl ?_
        refine s_get (C1 := RX6) (T := TX6) (N := 26) (ci := 5) C 36 0 10 uX6 rfl rfl (Nat.le_of_ble_eq_true rfl) uu1006 rfl rfl rfl dX6_heir_33 ?_
        refine s_iload_n C 37 1 rfl dX6_heir_36 rfl ?_
        obtain ⟨h8, hf⟩ := ck_in hf
        refine s_iald C 38 2 rfl h8 rfl dX6_heir_37 ?_
        refine s_goto C 64 dX6_heir_38 rfl ?_
        obtain rfl := Option.some.inj hf
        exact s_iret C (fun i => i) hr hlk rfl rfl dX6_heir_64
    · replace hf := ite_t hc11 hf
      refine s_aload_n C 19 0 rfl dX6_heir_18 rfl ?_
      refine s_get (C1 := RX6) (T := TX6) (N := 26) (ci := 5) C 22 0 9 uX6 rfl rfl (Nat.le_of_ble_eq_true rfl) uu1004 rfl rfl rfl dX6_heir_19 ?_
      refine s_iload_n C 23 1 rfl dX6_heir_22 rfl ?_
      obtain ⟨h10, hf⟩ := ck_in hf
      refine s_iald C 24 1 rfl h10 rfl dX6_heir_23 ?_
      refine s_goto C 64 dX6_heir_24 rfl ?_
      obtain rfl := Option.some.inj hf
      exact s_iret C (fun i => i) hr hlk rfl rfl dX6_heir_64
  · replace hf := ite_t hc14 hf
    refine s_aload_n C 9 0 rfl dX6_heir_8 rfl ?_
    refine s_iconst C 10 rfl dX6_heir_9 ic_m1 ?_
    obtain ⟨r12, q13, hf⟩ := bn_s hf
    refine s_callW (T := TX6) (N := 26) (ci := 5) (q0 := 0) (rest := []) C 13 (c_X6_no l D cI adK adV ad m_left m_bites m_many m_imageLeft m_imageBites m_imageMany m_wasLeft m_wasBites m_wasMany m_hasImage m_letterMany m_rowMany m_place m_seed m_kind m_figure m_imageKind m_imageFigure m_wasKind m_wasFigure m_letters m_row m_refused m_numbers m_counted m_few (-1 : Int32) r12 q13) (gV uu1070 uu1072 uu1571 uu6 uu1073) hd_X6_no rfl ⟨rfl, rfl⟩ ⟨Nat.le_of_ble_eq_true rfl, Nat.le_of_ble_eq_true rfl⟩ ⟨Nat.le_of_ble_eq_true rfl, Nat.le_of_ble_eq_true rfl⟩ rfl rfl rfl (Nat.le_of_ble_eq_true rfl) rfl dX6_heir_10 (fun _ => ?_)
    obtain rfl := Option.some.inj hf
    exact s_iret C (fun i => i) hr hlk rfl rfl dX6_heir_13


theorem hd_X6_bites : yX6_bites.cls = RX6 ∧ yX6_bites.cls ≠ "java/lang/invoke/MethodHandle" ∧ yX6_bites.cls ≠ "java/lang/invoke/VarHandle" ∧ (parseMethodDescriptor yX6_bites.desc).map (fun d => d.parameters.length) = some 2 := by decide +kernel
set_option maxHeartbeats 4000000 in
set_option maxRecDepth 100000 in
theorem c_X6_bites (l : Launch) (D : va_G) (cI : ClassId) (adK adV : Nat → Nat) (ad : Nat → Nat) (m_left : Int32) (m_bites : Int32) (m_many : Int32) (m_imageLeft : Int32) (m_imageBites : Int32) (m_imageMany : Int32) (m_wasLeft : Int32) (m_wasBites : Int32) (m_wasMany : Int32) (m_hasImage : Int32) (m_letterMany : Int32) (m_rowMany : Int32) (m_place : Int32) (m_seed : Int32) (m_kind : (Nat → Int32)) (m_figure : (Nat → Int32)) (m_imageKind : (Nat → Int32)) (m_imageFigure : (Nat → Int32)) (m_wasKind : (Nat → Int32)) (m_wasFigure : (Nat → Int32)) (m_letters : (Nat → Int32)) (m_row : (Nat → Int32)) (m_refused : (Nat → Int32)) (m_numbers : (Nat → Int32)) (m_counted : (Nat → Int32)) (m_few : (Nat → Int32)) (a1 : Int32) (a2 : Int32) (o : Int32 × Int32 × Int32 × (Nat → Int32)) (hf : f_X6_bites m_left m_bites m_refused a1 a2 = some o) : Ct l D cI adK adV yX6_bites (wy yX6_bites cX6_bites 3 (some .int)) { frames := 2, cells := 0, slots := 0, locals := 46 } 0 0 [.ref (ad 0), .int a1, .int a2] (wM ad cI m_left m_bites m_many m_imageLeft m_imageBites m_imageMany m_wasLeft m_wasBites m_wasMany m_hasImage m_letterMany m_rowMany m_place m_seed m_kind m_figure m_imageKind m_imageFigure m_wasKind m_wasFigure m_letters m_row m_refused m_numbers m_counted m_few) (fun _ => (wM ad cI o.2.1 o.2.2.1 m_many m_imageLeft m_imageBites m_imageMany m_wasLeft m_wasBites m_wasMany m_hasImage m_letterMany m_rowMany m_place m_seed m_kind m_figure m_imageKind m_imageFigure m_wasKind m_wasFigure m_letters m_row o.2.2.2 m_numbers m_counted m_few)) (some (.int o.1)) := by
  refine Ct.of (cc := cX6_bites) (nL := 3) (ret := (some .int)) (own := RX6) (by decide) (Nat.le_of_ble_eq_true rfl) rfl ?_
  intro p e s m args below meth c A C hr hlk hnm
  refine s_lv (lv1 := [(0, .ref (ad 0)), (1, .int a1), (2, .int a2)]) [0, 1, 2] rfl ?_
  unfold f_X6_bites at hf
  refine s_iload_n C 1 1 rfl dX6_bites_0 rfl ?_
  refine s_iconst C 2 rfl dX6_bites_1 ic_0 ?_
  refine s_iconst C 3 rfl dX6_bites_2 ic_3 ?_
  obtain ⟨r1, q2, hf⟩ := bn_s hf
  refine s_callS0 (host := "") (rest := []) C 6 (c_X6_isIn l D cI adK adV a1 (0 : Int32) (3 : Int32) r1 q2) (gS uu1106 uu1108 uu6 uu1109) hd_X6_isIn rfl ⟨rfl, rfl⟩ ⟨Nat.le_of_ble_eq_true rfl, Nat.le_of_ble_eq_true rfl⟩ ⟨Nat.le_of_ble_eq_true rfl, Nat.le_of_ble_eq_true rfl⟩ rfl (Nat.le_of_ble_eq_true rfl) rfl dX6_bites_3 ?_
  refine s_if_ne C 16 9 rfl dX6_bites_6 rfl (fun hc21 => ?_) (fun hc21 => ?_)
  · replace hf := ite_f hc21 hf
    refine s_iload_n C 17 2 rfl dX6_bites_16 rfl ?_
    obtain ⟨r3, q4, hf⟩ := bn_s hf
    refine s_callS0 (host := "") (rest := []) C 20 (c_X6_isCell l D cI adK adV a2 r3 q4) (gS uu1121 uu1123 uu6 uu1124) hd_X6_isCell rfl ⟨rfl, rfl⟩ ⟨Nat.le_of_ble_eq_true rfl, Nat.le_of_ble_eq_true rfl⟩ ⟨Nat.le_of_ble_eq_true rfl, Nat.le_of_ble_eq_true rfl⟩ rfl (Nat.le_of_ble_eq_true rfl) rfl dX6_bites_17 ?_
    refine s_if_ne C 29 23 rfl dX6_bites_20 rfl (fun hc18 => ?_) (fun hc18 => ?_)
    · replace hf := ite_f hc18 hf
      refine s_aload_n C 30 0 rfl dX6_bites_29 rfl ?_
      refine s_get (C1 := RX6) (T := TX6) (N := 26) (ci := 5) C 33 0 0 uX6 rfl rfl (Nat.le_of_ble_eq_true rfl) uu986 rfl rfl rfl dX6_bites_30 ?_
      refine s_iload_n C 34 1 rfl dX6_bites_33 rfl ?_
      refine s_iload_n C 35 2 rfl dX6_bites_34 rfl ?_
      obtain ⟨r5, q6, hf⟩ := bn_s hf
      refine s_callS0 (host := "") (rest := []) C 38 (c_X6_canBite l D cI adK adV m_left a1 a2 r5 q6) (gS uu1126 uu1128 uu6 uu1129) hd_X6_canBite rfl ⟨rfl, rfl⟩ ⟨Nat.le_of_ble_eq_true rfl, Nat.le_of_ble_eq_true rfl⟩ ⟨Nat.le_of_ble_eq_true rfl, Nat.le_of_ble_eq_true rfl⟩ rfl (Nat.le_of_ble_eq_true rfl) rfl dX6_bites_35 ?_
      refine s_if_ne C 48 41 rfl dX6_bites_38 rfl (fun hc15 => ?_) (fun hc15 => ?_)
      · replace hf := ite_f hc15 hf
        refine s_aload_n C 49 0 rfl dX6_bites_48 rfl ?_
        refine s_iload_n C 50 1 rfl dX6_bites_49 rfl ?_
        refine s_iload_n C 51 2 rfl dX6_bites_50 rfl ?_
        obtain ⟨r7, q8, hf⟩ := bn_s hf
        refine s_callS0 (host := "") (rest := [.ref (ad 0)]) C 54 (c_X6_bite l D cI adK adV a1 a2 r7 q8) (gS uu1131 uu1133 uu6 uu1134) hd_X6_bite rfl ⟨rfl, rfl⟩ ⟨Nat.le_of_ble_eq_true rfl, Nat.le_of_ble_eq_true rfl⟩ ⟨Nat.le_of_ble_eq_true rfl, Nat.le_of_ble_eq_true rfl⟩ rfl (Nat.le_of_ble_eq_true rfl) rfl dX6_bites_51 ?_
        obtain ⟨r9, q10, hf⟩ := bn_s hf
        refine s_callW (T := TX6) (N := 26) (ci := 5) (q0 := 0) (rest := []) C 57 (c_X6_bitesOff l D cI adK adV ad m_left m_bites m_many m_imageLeft m_imageBites m_imageMany m_wasLeft m_wasBites m_wasMany m_hasImage m_letterMany m_rowMany m_place m_seed m_kind m_figure m_imageKind m_imageFigure m_wasKind m_wasFigure m_letters m_row m_refused m_numbers m_counted m_few r7 r9 q10) (gV uu1136 uu1138 uu1578 uu6 uu1139) hd_X6_bitesOff rfl ⟨rfl, rfl⟩ ⟨Nat.le_of_ble_eq_true rfl, Nat.le_of_ble_eq_true rfl⟩ ⟨Nat.le_of_ble_eq_true rfl, Nat.le_of_ble_eq_true rfl⟩ rfl rfl rfl (Nat.le_of_ble_eq_true rfl) rfl dX6_bites_54 (fun _ => ?_)
        refine s_aload_n C 58 0 rfl dX6_bites_57 rfl ?_
        refine s_get (C1 := RX6) (T := TX6) (N := 26) (ci := 5) C 61 0 0 uX6 rfl rfl (Nat.le_of_ble_eq_true rfl) uu986 rfl rfl rfl dX6_bites_58 ?_
        obtain ⟨r11, q12, hf⟩ := bn_s hf
        refine s_callS0 (host := "") (rest := []) C 64 (c_X6_bits l D cI adK adV r9.1 r11 q12) (gS uu1177 uu1179 uu6 uu1180) hd_X6_bits rfl ⟨rfl, rfl⟩ ⟨Nat.le_of_ble_eq_true rfl, Nat.le_of_ble_eq_true rfl⟩ ⟨Nat.le_of_ble_eq_true rfl, Nat.le_of_ble_eq_true rfl⟩ rfl (Nat.le_of_ble_eq_true rfl) rfl dX6_bites_61 ?_
        obtain rfl := Option.some.inj hf
        exact s_iret C (fun i => i) hr hlk rfl rfl dX6_bites_64
      · replace hf := ite_t hc15 hf
        refine s_aload_n C 42 0 rfl dX6_bites_41 rfl ?_
        refine s_bipush C 44 rfl dX6_bites_42 bp_m3 ?_
        obtain ⟨r13, q14, hf⟩ := bn_s hf
        refine s_callW (T := TX6) (N := 26) (ci := 5) (q0 := 0) (rest := []) C 47 (c_X6_no l D cI adK adV ad m_left m_bites m_many m_imageLeft m_imageBites m_imageMany m_wasLeft m_wasBites m_wasMany m_hasImage m_letterMany m_rowMany m_place m_seed m_kind m_figure m_imageKind m_imageFigure m_wasKind m_wasFigure m_letters m_row m_refused m_numbers m_counted m_few (-3 : Int32) r13 q14) (gV uu1070 uu1072 uu1571 uu6 uu1073) hd_X6_no rfl ⟨rfl, rfl⟩ ⟨Nat.le_of_ble_eq_true rfl, Nat.le_of_ble_eq_true rfl⟩ ⟨Nat.le_of_ble_eq_true rfl, Nat.le_of_ble_eq_true rfl⟩ rfl rfl rfl (Nat.le_of_ble_eq_true rfl) rfl dX6_bites_44 (fun _ => ?_)
        obtain rfl := Option.some.inj hf
        exact s_iret C (fun i => i) hr hlk rfl rfl dX6_bites_47
    · replace hf := ite_t hc18 hf
      refine s_aload_n C 24 0 rfl dX6_bites_23 rfl ?_
      refine s_iconst C 25 rfl dX6_bites_24 ic_m1 ?_
      obtain ⟨r16, q17, hf⟩ := bn_s hf
      refine s_callW (T := TX6) (N := 26) (ci := 5) (q0 := 0) (rest := []) C 28 (c_X6_no l D cI adK adV ad m_left m_bites m_many m_imageLeft m_imageBites m_imageMany m_wasLeft m_wasBites m_wasMany m_hasImage m_letterMany m_rowMany m_place m_seed m_kind m_figure m_imageKind m_imageFigure m_wasKind m_wasFigure m_letters m_row m_refused m_numbers m_counted m_few (-1 : Int32) r16 q17) (gV uu1070 uu1072 uu1571 uu6 uu1073) hd_X6_no rfl ⟨rfl, rfl⟩ ⟨Nat.le_of_ble_eq_true rfl, Nat.le_of_ble_eq_true rfl⟩ ⟨Nat.le_of_ble_eq_true rfl, Nat.le_of_ble_eq_true rfl⟩ rfl rfl rfl (Nat.le_of_ble_eq_true rfl) rfl dX6_bites_25 (fun _ => ?_)
      obtain rfl := Option.some.inj hf
      exact s_iret C (fun i => i) hr hlk rfl rfl dX6_bites_28
  · replace hf := ite_t hc21 hf
    refine s_aload_n C 10 0 rfl dX6_bites_9 rfl ?_
    refine s_bipush C 12 rfl dX6_bites_10 bp_m2 ?_
    obtain ⟨r19, q20, hf⟩ := bn_s hf
    refine s_callW (T := TX6) (N := 26) (ci := 5) (q0 := 0) (rest := []) C 15 (c_X6_no l D cI adK adV ad m_left m_bites m_many m_imageLeft m_imageBites m_imageMany m_wasLeft m_wasBites m_wasMany m_hasImage m_letterMany m_rowMany m_place m_seed m_kind m_figure m_imageKind m_imageFigure m_wasKind m_wasFigure m_letters m_row m_refused m_numbers m_counted m_few (-2 : Int32) r19 q20) (gV uu1070 uu1072 uu1571 uu6 uu1073) hd_X6_no rfl ⟨rfl, rfl⟩ ⟨Nat.le_of_ble_eq_true rfl, Nat.le_of_ble_eq_true rfl⟩ ⟨Nat.le_of_ble_eq_true rfl, Nat.le_of_ble_eq_true rfl⟩ rfl rfl rfl (Nat.le_of_ble_eq_true rfl) rfl dX6_bites_12 (fun _ => ?_)
    obtain rfl := Option.some.inj hf
    exact s_iret C (fun i => i) hr hlk rfl rfl dX6_bites_15


theorem hd_X6_heals : yX6_heals.cls = RX6 ∧ yX6_heals.cls ≠ "java/lang/invoke/MethodHandle" ∧ yX6_heals.cls ≠ "java/lang/invoke/VarHandle" ∧ (parseMethodDescriptor yX6_heals.desc).map (fun d => d.parameters.length) = some 1 := by decide +kernel
set_option maxHeartbeats 4000000 in
set_option maxRecDepth 100000 in
theorem c_X6_heals (l : Launch) (D : va_G) (cI : ClassId) (adK adV : Nat → Nat) (ad : Nat → Nat) (m_left : Int32) (m_bites : Int32) (m_many : Int32) (m_imageLeft : Int32) (m_imageBites : Int32) (m_imageMany : Int32) (m_wasLeft : Int32) (m_wasBites : Int32) (m_wasMany : Int32) (m_hasImage : Int32) (m_letterMany : Int32) (m_rowMany : Int32) (m_place : Int32) (m_seed : Int32) (m_kind : (Nat → Int32)) (m_figure : (Nat → Int32)) (m_imageKind : (Nat → Int32)) (m_imageFigure : (Nat → Int32)) (m_wasKind : (Nat → Int32)) (m_wasFigure : (Nat → Int32)) (m_letters : (Nat → Int32)) (m_row : (Nat → Int32)) (m_refused : (Nat → Int32)) (m_numbers : (Nat → Int32)) (m_counted : (Nat → Int32)) (m_few : (Nat → Int32)) (a1 : Int32) (o : Int32 × Int32 × (Nat → Int32)) (hf : f_X6_heals m_left m_refused a1 = some o) : Ct l D cI adK adV yX6_heals (wy yX6_heals cX6_heals 2 (some .int)) { frames := 2, cells := 0, slots := 0, locals := 42 } 0 0 [.ref (ad 0), .int a1] (wM ad cI m_left m_bites m_many m_imageLeft m_imageBites m_imageMany m_wasLeft m_wasBites m_wasMany m_hasImage m_letterMany m_rowMany m_place m_seed m_kind m_figure m_imageKind m_imageFigure m_wasKind m_wasFigure m_letters m_row m_refused m_numbers m_counted m_few) (fun _ => (wM ad cI o.2.1 m_bites m_many m_imageLeft m_imageBites m_imageMany m_wasLeft m_wasBites m_wasMany m_hasImage m_letterMany m_rowMany m_place m_seed m_kind m_figure m_imageKind m_imageFigure m_wasKind m_wasFigure m_letters m_row o.2.2 m_numbers m_counted m_few)) (some (.int o.1)) := by
  refine Ct.of (cc := cX6_heals) (nL := 2) (ret := (some .int)) (own := RX6) (by decide) (Nat.le_of_ble_eq_true rfl) rfl ?_
  intro p e s m args below meth c A C hr hlk hnm
  refine s_lv (lv1 := [(0, .ref (ad 0)), (1, .int a1)]) [0, 1] rfl ?_
  unfold f_X6_heals at hf
  refine s_iload_n C 1 1 rfl dX6_heals_0 rfl ?_
  obtain ⟨r1, q2, hf⟩ := bn_s hf
  refine s_callS0 (host := "") (rest := []) C 4 (c_X6_isCell l D cI adK adV a1 r1 q2) (gS uu1121 uu1123 uu6 uu1124) hd_X6_isCell rfl ⟨rfl, rfl⟩ ⟨Nat.le_of_ble_eq_true rfl, Nat.le_of_ble_eq_true rfl⟩ ⟨Nat.le_of_ble_eq_true rfl, Nat.le_of_ble_eq_true rfl⟩ rfl (Nat.le_of_ble_eq_true rfl) rfl dX6_heals_1 ?_
  refine s_if_ne C 13 7 rfl dX6_heals_4 rfl (fun hc12 => ?_) (fun hc12 => ?_)
  · replace hf := ite_f hc12 hf
    refine s_aload_n C 14 0 rfl dX6_heals_13 rfl ?_
    refine s_get (C1 := RX6) (T := TX6) (N := 26) (ci := 5) C 17 0 0 uX6 rfl rfl (Nat.le_of_ble_eq_true rfl) uu986 rfl rfl rfl dX6_heals_14 ?_
    refine s_iload_n C 18 1 rfl dX6_heals_17 rfl ?_
    obtain ⟨r3, q4, hf⟩ := bn_s hf
    refine s_callS0 (host := "") (rest := []) C 21 (c_X6_has l D cI adK adV m_left a1 r3 q4) (gS uu1218 uu1220 uu6 uu1221) hd_X6_has rfl ⟨rfl, rfl⟩ ⟨Nat.le_of_ble_eq_true rfl, Nat.le_of_ble_eq_true rfl⟩ ⟨Nat.le_of_ble_eq_true rfl, Nat.le_of_ble_eq_true rfl⟩ rfl (Nat.le_of_ble_eq_true rfl) rfl dX6_heals_18 ?_
    refine s_if_eq C 31 24 rfl dX6_heals_21 rfl (fun hc9 => ?_) (fun hc9 => ?_)
    · replace hf := ite_t hc9 hf
      refine s_aload_n C 32 0 rfl dX6_heals_31 rfl ?_
      refine s_dup C 33 rfl dX6_heals_32 rfl ?_
      refine s_get (C1 := RX6) (T := TX6) (N := 26) (ci := 5) C 36 0 0 uX6 rfl rfl (Nat.le_of_ble_eq_true rfl) uu986 rfl rfl rfl dX6_heals_33 ?_
      refine s_iconst C 37 rfl dX6_heals_36 ic_1 ?_
      refine s_iload_n C 38 1 rfl dX6_heals_37 rfl ?_
      refine s_ishl C 39 rfl dX6_heals_38 ?_
      refine s_ior C 40 rfl dX6_heals_39 ?_
      refine s_put (C1 := RX6) (T := TX6) (N := 26) (ci := 5) (ty := tyX6 0) (ws1 := (wM ad cI (m_left ||| (jshl (1 : Int32) a1)) m_bites m_many m_imageLeft m_imageBites m_imageMany m_wasLeft m_wasBites m_wasMany m_hasImage m_letterMany m_rowMany m_place m_seed m_kind m_figure m_imageKind m_imageFigure m_wasKind m_wasFigure m_letters m_row m_refused m_numbers m_counted m_few)) C 43 0 0 uX6 tyX6 tyX6_ok nmX6 rfl rfl (Nat.le_of_ble_eq_true rfl) uu986 rfl rfl (tyX6_ok 0 (Nat.le_of_ble_eq_true rfl)) ⟨rfl, rfl⟩ (Nat.le_of_ble_eq_true rfl) rfl rfl dX6_heals_40 ?_
      refine s_aload_n C 44 0 rfl dX6_heals_43 rfl ?_
      refine s_get (C1 := RX6) (T := TX6) (N := 26) (ci := 5) C 47 0 0 uX6 rfl rfl (Nat.le_of_ble_eq_true rfl) uu986 rfl rfl rfl dX6_heals_44 ?_
      obtain ⟨r5, q6, hf⟩ := bn_s hf
      refine s_callS0 (host := "") (rest := []) C 50 (c_X6_bits l D cI adK adV (m_left ||| (jshl (1 : Int32) a1)) r5 q6) (gS uu1177 uu1179 uu6 uu1180) hd_X6_bits rfl ⟨rfl, rfl⟩ ⟨Nat.le_of_ble_eq_true rfl, Nat.le_of_ble_eq_true rfl⟩ ⟨Nat.le_of_ble_eq_true rfl, Nat.le_of_ble_eq_true rfl⟩ rfl (Nat.le_of_ble_eq_true rfl) rfl dX6_heals_47 ?_
      obtain rfl := Option.some.inj hf
      exact s_iret C (fun i => i) hr hlk rfl rfl dX6_heals_50
    · replace hf := ite_f hc9 hf
      refine s_aload_n C 25 0 rfl dX6_heals_24 rfl ?_
      refine s_bipush C 27 rfl dX6_heals_25 bp_m3 ?_
      obtain ⟨r7, q8, hf⟩ := bn_s hf
      refine s_callW (T := TX6) (N := 26) (ci := 5) (q0 := 0) (rest := []) C 30 (c_X6_no l D cI adK adV ad m_left m_bites m_many m_imageLeft m_imageBites m_imageMany m_wasLeft m_wasBites m_wasMany m_hasImage m_letterMany m_rowMany m_place m_seed m_kind m_figure m_imageKind m_imageFigure m_wasKind m_wasFigure m_letters m_row m_refused m_numbers m_counted m_few (-3 : Int32) r7 q8) (gV uu1070 uu1072 uu1571 uu6 uu1073) hd_X6_no rfl ⟨rfl, rfl⟩ ⟨Nat.le_of_ble_eq_true rfl, Nat.le_of_ble_eq_true rfl⟩ ⟨Nat.le_of_ble_eq_true rfl, Nat.le_of_ble_eq_true rfl⟩ rfl rfl rfl (Nat.le_of_ble_eq_true rfl) rfl dX6_heals_27 (fun _ => ?_)
      obtain rfl := Option.some.inj hf
      exact s_iret C (fun i => i) hr hlk rfl rfl dX6_heals_30
  · replace hf := ite_t hc12 hf
    refine s_aload_n C 8 0 rfl dX6_heals_7 rfl ?_
    refine s_iconst C 9 rfl dX6_heals_8 ic_m1 ?_
    obtain ⟨r10, q11, hf⟩ := bn_s hf
    refine s_callW (T := TX6) (N := 26) (ci := 5) (q0 := 0) (rest := []) C 12 (c_X6_no l D cI adK adV ad m_left m_bites m_many m_imageLeft m_imageBites m_imageMany m_wasLeft m_wasBites m_wasMany m_hasImage m_letterMany m_rowMany m_place m_seed m_kind m_figure m_imageKind m_imageFigure m_wasKind m_wasFigure m_letters m_row m_refused m_numbers m_counted m_few (-1 : Int32) r10 q11) (gV uu1070 uu1072 uu1571 uu6 uu1073) hd_X6_no rfl ⟨rfl, rfl⟩ ⟨Nat.le_of_ble_eq_true rfl, Nat.le_of_ble_eq_true rfl⟩ ⟨Nat.le_of_ble_eq_true rfl, Nat.le_of_ble_eq_true rfl⟩ rfl rfl rfl (Nat.le_of_ble_eq_true rfl) rfl dX6_heals_9 (fun _ => ?_)
    obtain rfl := Option.some.inj hf
    exact s_iret C (fun i => i) hr hlk rfl rfl dX6_heals_12


theorem hd_X6_rolls : yX6_rolls.cls = RX6 ∧ yX6_rolls.cls ≠ "java/lang/invoke/MethodHandle" ∧ yX6_rolls.cls ≠ "java/lang/invoke/VarHandle" ∧ (parseMethodDescriptor yX6_rolls.desc).map (fun d => d.parameters.length) = some 1 := by decide +kernel
set_option maxHeartbeats 4000000 in
set_option maxRecDepth 100000 in
theorem c_X6_rolls (l : Launch) (D : va_G) (cI : ClassId) (adK adV : Nat → Nat) (ad : Nat → Nat) (m_left : Int32) (m_bites : Int32) (m_many : Int32) (m_imageLeft : Int32) (m_imageBites : Int32) (m_imageMany : Int32) (m_wasLeft : Int32) (m_wasBites : Int32) (m_wasMany : Int32) (m_hasImage : Int32) (m_letterMany : Int32) (m_rowMany : Int32) (m_place : Int32) (m_seed : Int32) (m_kind : (Nat → Int32)) (m_figure : (Nat → Int32)) (m_imageKind : (Nat → Int32)) (m_imageFigure : (Nat → Int32)) (m_wasKind : (Nat → Int32)) (m_wasFigure : (Nat → Int32)) (m_letters : (Nat → Int32)) (m_row : (Nat → Int32)) (m_refused : (Nat → Int32)) (m_numbers : (Nat → Int32)) (m_counted : (Nat → Int32)) (m_few : (Nat → Int32)) (a1 : Int32) (o : Int32 × Int32 × (Nat → Int32)) (hf : f_X6_rolls m_left m_refused a1 = some o) : Ct l D cI adK adV yX6_rolls (wy yX6_rolls cX6_rolls 2 (some .int)) { frames := 2, cells := 0, slots := 0, locals := 45 } 0 0 [.ref (ad 0), .int a1] (wM ad cI m_left m_bites m_many m_imageLeft m_imageBites m_imageMany m_wasLeft m_wasBites m_wasMany m_hasImage m_letterMany m_rowMany m_place m_seed m_kind m_figure m_imageKind m_imageFigure m_wasKind m_wasFigure m_letters m_row m_refused m_numbers m_counted m_few) (fun _ => (wM ad cI o.2.1 m_bites m_many m_imageLeft m_imageBites m_imageMany m_wasLeft m_wasBites m_wasMany m_hasImage m_letterMany m_rowMany m_place m_seed m_kind m_figure m_imageKind m_imageFigure m_wasKind m_wasFigure m_letters m_row o.2.2 m_numbers m_counted m_few)) (some (.int o.1)) := by
  refine Ct.of (cc := cX6_rolls) (nL := 2) (ret := (some .int)) (own := RX6) (by decide) (Nat.le_of_ble_eq_true rfl) rfl ?_
  intro p e s m args below meth c A C hr hlk hnm
  refine s_lv (lv1 := [(0, .ref (ad 0)), (1, .int a1)]) [0, 1] rfl ?_
  unfold f_X6_rolls at hf
  refine s_iload_n C 1 1 rfl dX6_rolls_0 rfl ?_
  refine s_iconst C 2 rfl dX6_rolls_1 ic_1 ?_
  refine s_icmp_ge C 12 5 rfl dX6_rolls_2 rfl (fun hc10 => ?_) (fun hc10 => ?_)
  · replace hf := ite_t hc10 hf
    refine s_iload_n C 13 1 rfl dX6_rolls_12 rfl ?_
    refine s_iconst C 14 rfl dX6_rolls_13 ic_3 ?_
    refine s_icmp_le C 24 17 rfl dX6_rolls_14 rfl (fun hc7 => ?_) (fun hc7 => ?_)
    · replace hf := ite_t hc7 hf
      refine s_aload_n C 25 0 rfl dX6_rolls_24 rfl ?_
      refine s_aload_n C 26 0 rfl dX6_rolls_25 rfl ?_
      refine s_get (C1 := RX6) (T := TX6) (N := 26) (ci := 5) C 29 0 0 uX6 rfl rfl (Nat.le_of_ble_eq_true rfl) uu986 rfl rfl rfl dX6_rolls_26 ?_
      refine s_iload_n C 30 1 rfl dX6_rolls_29 rfl ?_
      obtain ⟨r1, q2, hf⟩ := bn_s hf
      refine s_callS0 (host := "") (rest := [.ref (ad 0)]) C 33 (c_X6_turnedBy l D cI adK adV m_left a1 r1 q2) (gS uu1146 uu1148 uu6 uu1149) hd_X6_turnedBy rfl ⟨rfl, rfl⟩ ⟨Nat.le_of_ble_eq_true rfl, Nat.le_of_ble_eq_true rfl⟩ ⟨Nat.le_of_ble_eq_true rfl, Nat.le_of_ble_eq_true rfl⟩ rfl (Nat.le_of_ble_eq_true rfl) rfl dX6_rolls_30 ?_
      refine s_put (C1 := RX6) (T := TX6) (N := 26) (ci := 5) (ty := tyX6 0) (ws1 := (wM ad cI r1 m_bites m_many m_imageLeft m_imageBites m_imageMany m_wasLeft m_wasBites m_wasMany m_hasImage m_letterMany m_rowMany m_place m_seed m_kind m_figure m_imageKind m_imageFigure m_wasKind m_wasFigure m_letters m_row m_refused m_numbers m_counted m_few)) C 36 0 0 uX6 tyX6 tyX6_ok nmX6 rfl rfl (Nat.le_of_ble_eq_true rfl) uu986 rfl rfl (tyX6_ok 0 (Nat.le_of_ble_eq_true rfl)) ⟨rfl, rfl⟩ (Nat.le_of_ble_eq_true rfl) rfl rfl dX6_rolls_33 ?_
      refine s_aload_n C 37 0 rfl dX6_rolls_36 rfl ?_
      refine s_get (C1 := RX6) (T := TX6) (N := 26) (ci := 5) C 40 0 0 uX6 rfl rfl (Nat.le_of_ble_eq_true rfl) uu986 rfl rfl rfl dX6_rolls_37 ?_
      obtain ⟨r3, q4, hf⟩ := bn_s hf
      refine s_callS0 (host := "") (rest := []) C 43 (c_X6_bits l D cI adK adV r1 r3 q4) (gS uu1177 uu1179 uu6 uu1180) hd_X6_bits rfl ⟨rfl, rfl⟩ ⟨Nat.le_of_ble_eq_true rfl, Nat.le_of_ble_eq_true rfl⟩ ⟨Nat.le_of_ble_eq_true rfl, Nat.le_of_ble_eq_true rfl⟩ rfl (Nat.le_of_ble_eq_true rfl) rfl dX6_rolls_40 ?_
      obtain rfl := Option.some.inj hf
      exact s_iret C (fun i => i) hr hlk rfl rfl dX6_rolls_43
    · replace hf := ite_f hc7 hf
      refine s_aload_n C 18 0 rfl dX6_rolls_17 rfl ?_
      refine s_bipush C 20 rfl dX6_rolls_18 bp_m6 ?_
      obtain ⟨r5, q6, hf⟩ := bn_s hf
      refine s_callW (T := TX6) (N := 26) (ci := 5) (q0 := 0) (rest := []) C 23 (c_X6_no l D cI adK adV ad m_left m_bites m_many m_imageLeft m_imageBites m_imageMany m_wasLeft m_wasBites m_wasMany m_hasImage m_letterMany m_rowMany m_place m_seed m_kind m_figure m_imageKind m_imageFigure m_wasKind m_wasFigure m_letters m_row m_refused m_numbers m_counted m_few (-6 : Int32) r5 q6) (gV uu1070 uu1072 uu1571 uu6 uu1073) hd_X6_no rfl ⟨rfl, rfl⟩ ⟨Nat.le_of_ble_eq_true rfl, Nat.le_of_ble_eq_true rfl⟩ ⟨Nat.le_of_ble_eq_true rfl, Nat.le_of_ble_eq_true rfl⟩ rfl rfl rfl (Nat.le_of_ble_eq_true rfl) rfl dX6_rolls_20 (fun _ => ?_)
      obtain rfl := Option.some.inj hf
      exact s_iret C (fun i => i) hr hlk rfl rfl dX6_rolls_23
  · replace hf := ite_f hc10 hf
    refine s_aload_n C 6 0 rfl dX6_rolls_5 rfl ?_
    refine s_bipush C 8 rfl dX6_rolls_6 bp_m4 ?_
    obtain ⟨r8, q9, hf⟩ := bn_s hf
    refine s_callW (T := TX6) (N := 26) (ci := 5) (q0 := 0) (rest := []) C 11 (c_X6_no l D cI adK adV ad m_left m_bites m_many m_imageLeft m_imageBites m_imageMany m_wasLeft m_wasBites m_wasMany m_hasImage m_letterMany m_rowMany m_place m_seed m_kind m_figure m_imageKind m_imageFigure m_wasKind m_wasFigure m_letters m_row m_refused m_numbers m_counted m_few (-4 : Int32) r8 q9) (gV uu1070 uu1072 uu1571 uu6 uu1073) hd_X6_no rfl ⟨rfl, rfl⟩ ⟨Nat.le_of_ble_eq_true rfl, Nat.le_of_ble_eq_true rfl⟩ ⟨Nat.le_of_ble_eq_true rfl, Nat.le_of_ble_eq_true rfl⟩ rfl rfl rfl (Nat.le_of_ble_eq_true rfl) rfl dX6_rolls_8 (fun _ => ?_)
    obtain rfl := Option.some.inj hf
    exact s_iret C (fun i => i) hr hlk rfl rfl dX6_rolls_11


theorem hd_X6_turn : yX6_turn.cls = RX6 ∧ yX6_turn.cls ≠ "java/lang/invoke/MethodHandle" ∧ yX6_turn.cls ≠ "java/lang/invoke/VarHandle" ∧ (parseMethodDescriptor yX6_turn.desc).map (fun d => d.parameters.length) = some 3 := by decide +kernel
set_option maxHeartbeats 4000000 in
set_option maxRecDepth 100000 in
theorem c_X6_turn (l : Launch) (D : va_G) (cI : ClassId) (adK adV : Nat → Nat) (ad : Nat → Nat) (m_left : Int32) (m_bites : Int32) (m_many : Int32) (m_imageLeft : Int32) (m_imageBites : Int32) (m_imageMany : Int32) (m_wasLeft : Int32) (m_wasBites : Int32) (m_wasMany : Int32) (m_hasImage : Int32) (m_letterMany : Int32) (m_rowMany : Int32) (m_place : Int32) (m_seed : Int32) (m_kind : (Nat → Int32)) (m_figure : (Nat → Int32)) (m_imageKind : (Nat → Int32)) (m_imageFigure : (Nat → Int32)) (m_wasKind : (Nat → Int32)) (m_wasFigure : (Nat → Int32)) (m_letters : (Nat → Int32)) (m_row : (Nat → Int32)) (m_refused : (Nat → Int32)) (m_numbers : (Nat → Int32)) (m_counted : (Nat → Int32)) (m_few : (Nat → Int32)) (a1 : Int32) (a2 : Int32) (a3 : Int32) (o : Int32 × (Nat → Int32) × (Nat → Int32) × (Nat → Int32)) (hf : f_X6_turn m_many m_kind m_figure m_refused a1 a2 a3 = some o) : Ct l D cI adK adV yX6_turn (wy yX6_turn cX6_turn 6 (some .int)) { frames := 2, cells := 0, slots := 0, locals := 43 } 0 0 [.ref (ad 0), .int a1, .int a2, .int a3] (wM ad cI m_left m_bites m_many m_imageLeft m_imageBites m_imageMany m_wasLeft m_wasBites m_wasMany m_hasImage m_letterMany m_rowMany m_place m_seed m_kind m_figure m_imageKind m_imageFigure m_wasKind m_wasFigure m_letters m_row m_refused m_numbers m_counted m_few) (fun _ => (wM ad cI m_left m_bites m_many m_imageLeft m_imageBites m_imageMany m_wasLeft m_wasBites m_wasMany m_hasImage m_letterMany m_rowMany m_place m_seed o.2.1 o.2.2.1 m_imageKind m_imageFigure m_wasKind m_wasFigure m_letters m_row o.2.2.2 m_numbers m_counted m_few)) (some (.int o.1)) := by
  refine Ct.of (cc := cX6_turn) (nL := 6) (ret := (some .int)) (own := RX6) (by decide) (Nat.le_of_ble_eq_true rfl) rfl ?_
  intro p e s m args below meth c A C hr hlk hnm
  refine s_lv (lv1 := [(0, .ref (ad 0)), (1, .int a1), (2, .int a2), (3, .int a3)]) [0, 1, 2, 3] rfl ?_
  unfold f_X6_turn at hf
  refine s_aload_n C 1 0 rfl dX6_turn_0 rfl ?_
  refine s_iload_n C 2 1 rfl dX6_turn_1 rfl ?_
  obtain ⟨r1, q2, hf⟩ := bn_s hf
  refine s_callW (T := TX6) (N := 26) (ci := 5) (q0 := 0) (rest := []) C 5 (c_X6_isHeir l D cI adK adV ad m_left m_bites m_many m_imageLeft m_imageBites m_imageMany m_wasLeft m_wasBites m_wasMany m_hasImage m_letterMany m_rowMany m_place m_seed m_kind m_figure m_imageKind m_imageFigure m_wasKind m_wasFigure m_letters m_row m_refused m_numbers m_counted m_few a1 r1 q2) (gV uu1193 uu1195 uu1581 uu6 uu1196) hd_X6_isHeir rfl ⟨rfl, rfl⟩ ⟨Nat.le_of_ble_eq_true rfl, Nat.le_of_ble_eq_true rfl⟩ ⟨Nat.le_of_ble_eq_true rfl, Nat.le_of_ble_eq_true rfl⟩ rfl rfl rfl (Nat.le_of_ble_eq_true rfl) rfl dX6_turn_2 (fun _ => ?_)
  refine s_bn (α := Int32) 32 (fun j3 => [(0, .ref (ad 0)), (1, .int a1), (2, .int a2), (3, .int a3)]) (fun j3 => [.int j3]) (fun j3 => (wM ad cI m_left m_bites m_many m_imageLeft m_imageBites m_imageMany m_wasLeft m_wasBites m_wasMany m_hasImage m_letterMany m_rowMany m_place m_seed m_kind m_figure m_imageKind m_imageFigure m_wasKind m_wasFigure m_letters m_row m_refused m_numbers m_counted m_few)) hf (fun j3 hf => ?_) (fun hj hf => ?_)
  · refine s_istore (lv1 := [(4, .int j3), (0, .ref (ad 0)), (1, .int a1), (2, .int a2), (3, .int a3)]) C 34 4 rfl dX6_turn_32 (Nat.le_of_ble_eq_true rfl) rfl ?_
    refine s_iload C 36 0 rfl dX6_turn_34 rfl ?_
    refine s_if_eq C 46 39 rfl dX6_turn_36 rfl (fun hc16 => ?_) (fun hc16 => ?_)
    · replace hf := ite_t hc16 hf
      refine s_bipush C 48 rfl dX6_turn_46 bp_10 ?_
      refine s_aload_n C 49 1 rfl dX6_turn_48 rfl ?_
      refine s_get (C1 := RX6) (T := TX6) (N := 26) (ci := 5) C 52 0 9 uX6 rfl rfl (Nat.le_of_ble_eq_true rfl) uu1004 rfl rfl rfl dX6_turn_49 ?_
      refine s_iload_n C 53 2 rfl dX6_turn_52 rfl ?_
      obtain ⟨h10, hf⟩ := ck_in hf
      refine s_iald C 54 1 rfl h10 rfl dX6_turn_53 ?_
      refine s_imul C 55 rfl dX6_turn_54 ?_
      refine s_aload_n C 56 1 rfl dX6_turn_55 rfl ?_
      refine s_get (C1 := RX6) (T := TX6) (N := 26) (ci := 5) C 59 0 10 uX6 rfl rfl (Nat.le_of_ble_eq_true rfl) uu1006 rfl rfl rfl dX6_turn_56 ?_
      refine s_iload_n C 60 2 rfl dX6_turn_59 rfl ?_
      obtain ⟨h11, hf⟩ := ck_in hf
      refine s_iald C 61 2 rfl h11 rfl dX6_turn_60 ?_
      refine s_iadd C 62 rfl dX6_turn_61 ?_
      refine s_istore (lv1 := [(5, .int (((10 : Int32) * (m_kind a1.toNatClampNeg)) + (m_figure a1.toNatClampNeg))), (4, .int j3), (0, .ref (ad 0)), (1, .int a1), (2, .int a2), (3, .int a3)]) C 64 5 rfl dX6_turn_62 (Nat.le_of_ble_eq_true rfl) rfl ?_
      refine s_aload_n C 65 2 rfl dX6_turn_64 rfl ?_
      refine s_get (C1 := RX6) (T := TX6) (N := 26) (ci := 5) C 68 0 9 uX6 rfl rfl (Nat.le_of_ble_eq_true rfl) uu1004 rfl rfl rfl dX6_turn_65 ?_
      refine s_iload_n C 69 3 rfl dX6_turn_68 rfl ?_
      refine s_iload_n C 70 4 rfl dX6_turn_69 rfl ?_
      obtain ⟨h12, hf⟩ := ck_in hf
      refine s_iast (ws1 := (wM ad cI m_left m_bites m_many m_imageLeft m_imageBites m_imageMany m_wasLeft m_wasBites m_wasMany m_hasImage m_letterMany m_rowMany m_place m_seed (upd m_kind a1.toNatClampNeg a2) m_figure m_imageKind m_imageFigure m_wasKind m_wasFigure m_letters m_row m_refused m_numbers m_counted m_few)) C 71 1 rfl h12 rfl rfl dX6_turn_70 ?_
      refine s_aload_n C 72 2 rfl dX6_turn_71 rfl ?_
      refine s_get (C1 := RX6) (T := TX6) (N := 26) (ci := 5) C 75 0 10 uX6 rfl rfl (Nat.le_of_ble_eq_true rfl) uu1006 rfl rfl rfl dX6_turn_72 ?_
      refine s_iload_n C 76 3 rfl dX6_turn_75 rfl ?_
      refine s_iload_n C 77 5 rfl dX6_turn_76 rfl ?_
      obtain ⟨h13, hf⟩ := ck_in hf
      refine s_iast (ws1 := (wM ad cI m_left m_bites m_many m_imageLeft m_imageBites m_imageMany m_wasLeft m_wasBites m_wasMany m_hasImage m_letterMany m_rowMany m_place m_seed (upd m_kind a1.toNatClampNeg a2) (upd m_figure a1.toNatClampNeg a3) m_imageKind m_imageFigure m_wasKind m_wasFigure m_letters m_row m_refused m_numbers m_counted m_few)) C 78 2 rfl h13 rfl rfl dX6_turn_77 ?_
      refine s_iload C 80 0 rfl dX6_turn_78 rfl ?_
      obtain rfl := Option.some.inj hf
      exact s_iret C (fun i => i) hr hlk rfl rfl dX6_turn_80
    · replace hf := ite_f hc16 hf
      refine s_aload_n C 40 1 rfl dX6_turn_39 rfl ?_
      refine s_iload C 42 0 rfl dX6_turn_40 rfl ?_
      obtain ⟨r14, q15, hf⟩ := bn_s hf
      refine s_callW (T := TX6) (N := 26) (ci := 5) (q0 := 0) (rest := []) C 45 (c_X6_no l D cI adK adV ad m_left m_bites m_many m_imageLeft m_imageBites m_imageMany m_wasLeft m_wasBites m_wasMany m_hasImage m_letterMany m_rowMany m_place m_seed m_kind m_figure m_imageKind m_imageFigure m_wasKind m_wasFigure m_letters m_row m_refused m_numbers m_counted m_few j3 r14 q15) (gV uu1070 uu1072 uu1571 uu6 uu1073) hd_X6_no rfl ⟨rfl, rfl⟩ ⟨Nat.le_of_ble_eq_true rfl, Nat.le_of_ble_eq_true rfl⟩ ⟨Nat.le_of_ble_eq_true rfl, Nat.le_of_ble_eq_true rfl⟩ rfl rfl rfl (Nat.le_of_ble_eq_true rfl) rfl dX6_turn_42 (fun _ => ?_)
      obtain rfl := Option.some.inj hf
      exact s_iret C (fun i => i) hr hlk rfl rfl dX6_turn_45
  · refine s_if_ne C 12 8 rfl dX6_turn_5 rfl (fun hc9 => ?_) (fun hc9 => ?_)
    · replace hf := bn_f hc9 hf
      refine s_iload_n C 13 2 rfl dX6_turn_12 rfl ?_
      refine s_iconst C 14 rfl dX6_turn_13 ic_0 ?_
      refine s_iconst C 15 rfl dX6_turn_14 ic_5 ?_
      obtain ⟨r4, q5, hf⟩ := bn_b hf
      refine s_callS0 (host := "") (rest := []) C 18 (c_X6_isIn l D cI adK adV a2 (0 : Int32) (5 : Int32) r4 q5) (gS uu1106 uu1108 uu6 uu1109) hd_X6_isIn rfl ⟨rfl, rfl⟩ ⟨Nat.le_of_ble_eq_true rfl, Nat.le_of_ble_eq_true rfl⟩ ⟨Nat.le_of_ble_eq_true rfl, Nat.le_of_ble_eq_true rfl⟩ rfl (Nat.le_of_ble_eq_true rfl) rfl dX6_turn_15 ?_
      refine s_if_ne C 26 21 rfl dX6_turn_18 rfl (fun hc8 => ?_) (fun hc8 => ?_)
      · replace hf := bn_f hc8 hf
        refine s_iload_n C 27 3 rfl dX6_turn_26 rfl ?_
        refine s_bipush C 29 rfl dX6_turn_27 bp_9 ?_
        obtain ⟨r6, q7, hf⟩ := bn_b hf
        refine s_callS0 (host := "") (rest := []) C 32 (c_X6_wrongBy l D cI adK adV a3 (9 : Int32) r6 q7) (gS uu1257 uu1259 uu6 uu1260) hd_X6_wrongBy rfl ⟨rfl, rfl⟩ ⟨Nat.le_of_ble_eq_true rfl, Nat.le_of_ble_eq_true rfl⟩ ⟨Nat.le_of_ble_eq_true rfl, Nat.le_of_ble_eq_true rfl⟩ rfl (Nat.le_of_ble_eq_true rfl) rfl dX6_turn_29 ?_
        replace hf := bn_i hf
        exact s_lv [0, 1, 2, 3] rfl (hj (r6 : Int32) hf)
      · replace hf := bn_t hc8 hf
        refine s_bipush C 23 rfl dX6_turn_21 bp_m2 ?_
        refine s_goto C 32 dX6_turn_23 rfl ?_
        replace hf := bn_i hf
        exact s_lv [0, 1, 2, 3] rfl (hj ((-2 : Int32) : Int32) hf)
    · replace hf := bn_t hc9 hf
      refine s_iconst C 9 rfl dX6_turn_8 ic_m1 ?_
      refine s_goto C 32 dX6_turn_9 rfl ?_
      replace hf := bn_i hf
      exact s_lv [0, 1, 2, 3] rfl (hj ((-1 : Int32) : Int32) hf)


theorem hd_X6_anew : yX6_anew.cls = RX6 ∧ yX6_anew.cls ≠ "java/lang/invoke/MethodHandle" ∧ yX6_anew.cls ≠ "java/lang/invoke/VarHandle" ∧ (parseMethodDescriptor yX6_anew.desc).map (fun d => d.parameters.length) = some 0 := by decide +kernel
set_option maxHeartbeats 4000000 in
set_option maxRecDepth 100000 in
theorem c_X6_anew (l : Launch) (D : va_G) (cI : ClassId) (adK adV : Nat → Nat) (ad : Nat → Nat) (m_left : Int32) (m_bites : Int32) (m_many : Int32) (m_imageLeft : Int32) (m_imageBites : Int32) (m_imageMany : Int32) (m_wasLeft : Int32) (m_wasBites : Int32) (m_wasMany : Int32) (m_hasImage : Int32) (m_letterMany : Int32) (m_rowMany : Int32) (m_place : Int32) (m_seed : Int32) (m_kind : (Nat → Int32)) (m_figure : (Nat → Int32)) (m_imageKind : (Nat → Int32)) (m_imageFigure : (Nat → Int32)) (m_wasKind : (Nat → Int32)) (m_wasFigure : (Nat → Int32)) (m_letters : (Nat → Int32)) (m_row : (Nat → Int32)) (m_refused : (Nat → Int32)) (m_numbers : (Nat → Int32)) (m_counted : (Nat → Int32)) (m_few : (Nat → Int32))  (o : Int32 × Int32 × Int32) (hf : f_X6_anew m_bites = some o) : Ct l D cI adK adV yX6_anew (wy yX6_anew cX6_anew 2 (some .int)) { frames := 1, cells := 0, slots := 0, locals := 20 } 0 0 [.ref (ad 0)] (wM ad cI m_left m_bites m_many m_imageLeft m_imageBites m_imageMany m_wasLeft m_wasBites m_wasMany m_hasImage m_letterMany m_rowMany m_place m_seed m_kind m_figure m_imageKind m_imageFigure m_wasKind m_wasFigure m_letters m_row m_refused m_numbers m_counted m_few) (fun _ => (wM ad cI o.2.1 o.2.2 m_many m_imageLeft m_imageBites m_imageMany m_wasLeft m_wasBites m_wasMany m_hasImage m_letterMany m_rowMany m_place m_seed m_kind m_figure m_imageKind m_imageFigure m_wasKind m_wasFigure m_letters m_row m_refused m_numbers m_counted m_few)) (some (.int o.1)) := by
  refine Ct.of (cc := cX6_anew) (nL := 2) (ret := (some .int)) (own := RX6) (by decide) (Nat.le_of_ble_eq_true rfl) rfl ?_
  intro p e s m args below meth c A C hr hlk hnm
  refine s_lv (lv1 := [(0, .ref (ad 0))]) [0] rfl ?_
  unfold f_X6_anew at hf
  refine s_aload_n C 1 0 rfl dX6_anew_0 rfl ?_
  refine s_get (C1 := RX6) (T := TX6) (N := 26) (ci := 5) C 4 0 1 uX6 rfl rfl (Nat.le_of_ble_eq_true rfl) uu988 rfl rfl rfl dX6_anew_1 ?_
  refine s_istore_n (lv1 := [(1, .int m_bites), (0, .ref (ad 0))]) C 5 1 rfl dX6_anew_4 rfl (Nat.le_of_ble_eq_true rfl) rfl ?_
  refine s_aload_n C 6 1 rfl dX6_anew_5 rfl ?_
  obtain ⟨r1, q2, hf⟩ := bn_s hf
  refine s_callW (T := TX6) (N := 26) (ci := 5) (q0 := 0) (rest := []) C 9 (c_X6_allAgain l D cI adK adV ad m_left m_bites m_many m_imageLeft m_imageBites m_imageMany m_wasLeft m_wasBites m_wasMany m_hasImage m_letterMany m_rowMany m_place m_seed m_kind m_figure m_imageKind m_imageFigure m_wasKind m_wasFigure m_letters m_row m_refused m_numbers m_counted m_few r1 q2) (gV uu1156 uu1158 uu1579 uu6 uu1159) hd_X6_allAgain rfl ⟨rfl, rfl⟩ ⟨Nat.le_of_ble_eq_true rfl, Nat.le_of_ble_eq_true rfl⟩ ⟨Nat.le_of_ble_eq_true rfl, Nat.le_of_ble_eq_true rfl⟩ rfl rfl rfl (Nat.le_of_ble_eq_true rfl) rfl dX6_anew_6 (fun _ => ?_)
  refine s_iload_n C 10 0 rfl dX6_anew_9 rfl ?_
  obtain rfl := Option.some.inj hf
  exact s_iret C (fun i => i) hr hlk rfl rfl dX6_anew_10


theorem hd_X6_shares : yX6_shares.cls = RX6 ∧ yX6_shares.cls ≠ "java/lang/invoke/MethodHandle" ∧ yX6_shares.cls ≠ "java/lang/invoke/VarHandle" ∧ (parseMethodDescriptor yX6_shares.desc).map (fun d => d.parameters.length) = some 1 := by decide +kernel
set_option maxHeartbeats 4000000 in
set_option maxRecDepth 100000 in
theorem c_X6_shares (l : Launch) (D : va_G) (cI : ClassId) (adK adV : Nat → Nat) (ad : Nat → Nat) (m_left : Int32) (m_bites : Int32) (m_many : Int32) (m_imageLeft : Int32) (m_imageBites : Int32) (m_imageMany : Int32) (m_wasLeft : Int32) (m_wasBites : Int32) (m_wasMany : Int32) (m_hasImage : Int32) (m_letterMany : Int32) (m_rowMany : Int32) (m_place : Int32) (m_seed : Int32) (m_kind : (Nat → Int32)) (m_figure : (Nat → Int32)) (m_imageKind : (Nat → Int32)) (m_imageFigure : (Nat → Int32)) (m_wasKind : (Nat → Int32)) (m_wasFigure : (Nat → Int32)) (m_letters : (Nat → Int32)) (m_row : (Nat → Int32)) (m_refused : (Nat → Int32)) (m_numbers : (Nat → Int32)) (m_counted : (Nat → Int32)) (m_few : (Nat → Int32)) (a1 : Int32) (o : Int32 × (Nat → Int32)) (hf : f_X6_shares m_left m_many m_kind m_figure m_refused a1 = some o) : Ct l D cI adK adV yX6_shares (wy yX6_shares cX6_shares 4 (some .int)) { frames := 6, cells := 0, slots := 0, locals := 140 } 0 0 [.ref (ad 0), .int a1] (wM ad cI m_left m_bites m_many m_imageLeft m_imageBites m_imageMany m_wasLeft m_wasBites m_wasMany m_hasImage m_letterMany m_rowMany m_place m_seed m_kind m_figure m_imageKind m_imageFigure m_wasKind m_wasFigure m_letters m_row m_refused m_numbers m_counted m_few) (fun _ => (wM ad cI m_left m_bites m_many m_imageLeft m_imageBites m_imageMany m_wasLeft m_wasBites m_wasMany m_hasImage m_letterMany m_rowMany m_place m_seed m_kind m_figure m_imageKind m_imageFigure m_wasKind m_wasFigure m_letters m_row o.2 m_numbers m_counted m_few)) (some (.int o.1)) := by
  refine Ct.of (cc := cX6_shares) (nL := 4) (ret := (some .int)) (own := RX6) (by decide) (Nat.le_of_ble_eq_true rfl) rfl ?_
  intro p e s m args below meth c A C hr hlk hnm
  refine s_lv (lv1 := [(0, .ref (ad 0)), (1, .int a1)]) [0, 1] rfl ?_
  unfold f_X6_shares at hf
  refine s_iload_n C 1 1 rfl dX6_shares_0 rfl ?_
  refine s_iconst C 2 rfl dX6_shares_1 ic_0 ?_
  refine s_iconst C 3 rfl dX6_shares_2 ic_1 ?_
  obtain ⟨r1, q2, hf⟩ := bn_s hf
  refine s_callS0 (host := "") (rest := []) C 6 (c_X6_isIn l D cI adK adV a1 (0 : Int32) (1 : Int32) r1 q2) (gS uu1106 uu1108 uu6 uu1109) hd_X6_isIn rfl ⟨rfl, rfl⟩ ⟨Nat.le_of_ble_eq_true rfl, Nat.le_of_ble_eq_true rfl⟩ ⟨Nat.le_of_ble_eq_true rfl, Nat.le_of_ble_eq_true rfl⟩ rfl (Nat.le_of_ble_eq_true rfl) rfl dX6_shares_3 ?_
  refine s_if_ne C 16 9 rfl dX6_shares_6 rfl (fun hc26 => ?_) (fun hc26 => ?_)
  · replace hf := ite_f hc26 hf
    refine s_iload_n C 17 1 rfl dX6_shares_16 rfl ?_
    refine s_if_ne C 29 20 rfl dX6_shares_17 rfl (fun hc23 => ?_) (fun hc23 => ?_)
    · replace hf := ite_f hc23 hf
      refine s_bipush C 31 rfl dX6_shares_29 bp_m9 ?_
      refine s_istore_n (lv1 := [(2, .int (-9 : Int32)), (0, .ref (ad 0)), (1, .int a1)]) C 32 2 rfl dX6_shares_31 rfl (Nat.le_of_ble_eq_true rfl) rfl ?_
      refine s_iconst C 33 rfl dX6_shares_32 ic_0 ?_
      refine s_istore_n (lv1 := [(3, .int (0 : Int32)), (2, .int (-9 : Int32)), (0, .ref (ad 0)), (1, .int a1)]) C 34 3 rfl dX6_shares_33 rfl (Nat.le_of_ble_eq_true rfl) rfl ?_
      refine s_lv (lv1 := [(0, .ref (ad 0)), (2, .int (-9 : Int32)), (3, .int (0 : Int32))]) [2, 1, 0] rfl ?_
      refine s_loop (α := Int32 × Int32) (fun n v11 => f_X6_shares_34 m_left m_many m_kind m_figure m_refused n v11.1 v11.2) 34 (fun v11 => [(0, .ref (ad 0)), (2, .int v11.1), (3, .int v11.2)]) (fun v11 => (wM ad cI m_left m_bites m_many m_imageLeft m_imageBites m_imageMany m_wasLeft m_wasBites m_wasMany m_hasImage m_letterMany m_rowMany m_place m_seed m_kind m_figure m_imageKind m_imageFigure m_wasKind m_wasFigure m_letters m_row m_refused m_numbers m_counted m_few)) 1000 ((-9 : Int32), (0 : Int32)) hf (fun v11 hf => by simp only [f_X6_shares_34] at hf; exact absurd hf (by simp)) (fun n ih12 v11 hf => ?_)
      replace hf := (f_X6_shares_34_s _ _ _ _ _ _ _ _).symm.trans hf
      refine s_iload_n C 35 2 rfl dX6_shares_34 rfl ?_
      refine s_aload_n C 36 0 rfl dX6_shares_35 rfl ?_
      refine s_get (C1 := RX6) (T := TX6) (N := 26) (ci := 5) C 39 0 2 uX6 rfl rfl (Nat.le_of_ble_eq_true rfl) uu990 rfl rfl rfl dX6_shares_36 ?_
      refine s_icmp_ge C 75 42 rfl dX6_shares_39 rfl (fun hc20 => ?_) (fun hc20 => ?_)
      · replace hf := ite_t hc20 hf
        refine s_iload_n C 76 1 rfl dX6_shares_75 rfl ?_
        obtain rfl := Option.some.inj hf
        exact s_iret C (fun i => i) hr hlk rfl rfl dX6_shares_76
      · replace hf := ite_f hc20 hf
        refine s_iload_n C 43 1 rfl dX6_shares_42 rfl ?_
        refine s_bn (α := Int32) 69 (fun j13 => [(0, .ref (ad 0)), (2, .int j13), (3, .int v11.2)]) (fun j13 => []) (fun j13 => (wM ad cI m_left m_bites m_many m_imageLeft m_imageBites m_imageMany m_wasLeft m_wasBites m_wasMany m_hasImage m_letterMany m_rowMany m_place m_seed m_kind m_figure m_imageKind m_imageFigure m_wasKind m_wasFigure m_letters m_row m_refused m_numbers m_counted m_few)) hf (fun j13 hf => ?_) (fun hj hf => ?_)
        · refine s_iinc (lv1 := [(3, .int (v11.2 + (1 : Int32))), (0, .ref (ad 0)), (2, .int j13)]) C 72 3 2 rfl dX6_shares_69 rfl ic_1 (Nat.le_of_ble_eq_true rfl) rfl ?_
          refine s_goto C 34 dX6_shares_72 rfl ?_
          exact s_lv [1, 2, 0] rfl (ih12 ((j13, v11.2 + (1 : Int32)) : Int32 × Int32) hf)
        · refine s_if_lt C 67 46 rfl dX6_shares_43 rfl (fun hc19 => ?_) (fun hc19 => ?_)
          · replace hf := bn_t hc19 hf
            refine s_iload_n C 68 2 rfl dX6_shares_67 rfl ?_
            refine s_istore_n (lv1 := [(2, .int v11.2), (0, .ref (ad 0)), (3, .int v11.2)]) C 69 2 rfl dX6_shares_68 rfl (Nat.le_of_ble_eq_true rfl) rfl ?_
            replace hf := bn_i hf
            exact s_lv [1, 0, 2] rfl (hj (v11.2 : Int32) hf)
          · replace hf := bn_f hc19 hf
            refine s_aload_n C 47 0 rfl dX6_shares_46 rfl ?_
            refine s_aload_n C 48 0 rfl dX6_shares_47 rfl ?_
            refine s_get (C1 := RX6) (T := TX6) (N := 26) (ci := 5) C 51 0 0 uX6 rfl rfl (Nat.le_of_ble_eq_true rfl) uu986 rfl rfl rfl dX6_shares_48 ?_
            refine s_iload_n C 52 2 rfl dX6_shares_51 rfl ?_
            obtain ⟨r14, q15, hf⟩ := bn_b hf
            refine s_callW (T := TX6) (N := 26) (ci := 5) (q0 := 0) (rest := []) C 55 (c_X6_shareOf l D cI adK adV ad m_left m_bites m_many m_imageLeft m_imageBites m_imageMany m_wasLeft m_wasBites m_wasMany m_hasImage m_letterMany m_rowMany m_place m_seed m_kind m_figure m_imageKind m_imageFigure m_wasKind m_wasFigure m_letters m_row m_refused m_numbers m_counted m_few m_left v11.2 r14 q15) (gV uu1198 uu1200 uu1582 uu6 uu1201) hd_X6_shareOf rfl ⟨rfl, rfl⟩ ⟨Nat.le_of_ble_eq_true rfl, Nat.le_of_ble_eq_true rfl⟩ ⟨Nat.le_of_ble_eq_true rfl, Nat.le_of_ble_eq_true rfl⟩ rfl rfl rfl (Nat.le_of_ble_eq_true rfl) rfl dX6_shares_52 (fun _ => ?_)
            refine s_aload_n C 56 0 rfl dX6_shares_55 rfl ?_
            refine s_aload_n C 57 0 rfl dX6_shares_56 rfl ?_
            refine s_get (C1 := RX6) (T := TX6) (N := 26) (ci := 5) C 60 0 0 uX6 rfl rfl (Nat.le_of_ble_eq_true rfl) uu986 rfl rfl rfl dX6_shares_57 ?_
            refine s_iload_n C 61 1 rfl dX6_shares_60 rfl ?_
            obtain ⟨r16, q17, hf⟩ := bn_b hf
            refine s_callW (T := TX6) (N := 26) (ci := 5) (q0 := 0) (rest := [.int r14]) C 64 (c_X6_shareOf l D cI adK adV ad m_left m_bites m_many m_imageLeft m_imageBites m_imageMany m_wasLeft m_wasBites m_wasMany m_hasImage m_letterMany m_rowMany m_place m_seed m_kind m_figure m_imageKind m_imageFigure m_wasKind m_wasFigure m_letters m_row m_refused m_numbers m_counted m_few m_left v11.1 r16 q17) (gV uu1198 uu1200 uu1582 uu6 uu1201) hd_X6_shareOf rfl ⟨rfl, rfl⟩ ⟨Nat.le_of_ble_eq_true rfl, Nat.le_of_ble_eq_true rfl⟩ ⟨Nat.le_of_ble_eq_true rfl, Nat.le_of_ble_eq_true rfl⟩ rfl rfl rfl (Nat.le_of_ble_eq_true rfl) rfl dX6_shares_61 (fun _ => ?_)
            refine s_icmp_le C 69 67 rfl dX6_shares_64 rfl (fun hc18 => ?_) (fun hc18 => ?_)
            · replace hf := bn_t hc18 hf
              replace hf := bn_i hf
              exact s_lv [0, 1, 2] rfl (hj (v11.1 : Int32) hf)
            · replace hf := bn_f hc18 hf
              refine s_iload_n C 68 2 rfl dX6_shares_67 rfl ?_
              refine s_istore_n (lv1 := [(2, .int v11.2), (0, .ref (ad 0)), (3, .int v11.2)]) C 69 2 rfl dX6_shares_68 rfl (Nat.le_of_ble_eq_true rfl) rfl ?_
              replace hf := bn_i hf
              exact s_lv [1, 0, 2] rfl (hj (v11.2 : Int32) hf)
    · replace hf := ite_t hc23 hf
      refine s_aload_n C 21 0 rfl dX6_shares_20 rfl ?_
      refine s_aload_n C 22 0 rfl dX6_shares_21 rfl ?_
      refine s_get (C1 := RX6) (T := TX6) (N := 26) (ci := 5) C 25 0 0 uX6 rfl rfl (Nat.le_of_ble_eq_true rfl) uu986 rfl rfl rfl dX6_shares_22 ?_
      obtain ⟨r21, q22, hf⟩ := bn_s hf
      refine s_callW (T := TX6) (N := 26) (ci := 5) (q0 := 0) (rest := []) C 28 (c_X6_sharesOf l D cI adK adV ad m_left m_bites m_many m_imageLeft m_imageBites m_imageMany m_wasLeft m_wasBites m_wasMany m_hasImage m_letterMany m_rowMany m_place m_seed m_kind m_figure m_imageKind m_imageFigure m_wasKind m_wasFigure m_letters m_row m_refused m_numbers m_counted m_few m_left r21 q22) (gV uu1274 uu1276 uu1583 uu6 uu1277) hd_X6_sharesOf rfl ⟨rfl, rfl⟩ ⟨Nat.le_of_ble_eq_true rfl, Nat.le_of_ble_eq_true rfl⟩ ⟨Nat.le_of_ble_eq_true rfl, Nat.le_of_ble_eq_true rfl⟩ rfl rfl rfl (Nat.le_of_ble_eq_true rfl) rfl dX6_shares_25 (fun _ => ?_)
      obtain rfl := Option.some.inj hf
      exact s_iret C (fun i => i) hr hlk rfl rfl dX6_shares_28
  · replace hf := ite_t hc26 hf
    refine s_aload_n C 10 0 rfl dX6_shares_9 rfl ?_
    refine s_bipush C 12 rfl dX6_shares_10 bp_m2 ?_
    obtain ⟨r24, q25, hf⟩ := bn_s hf
    refine s_callW (T := TX6) (N := 26) (ci := 5) (q0 := 0) (rest := []) C 15 (c_X6_no l D cI adK adV ad m_left m_bites m_many m_imageLeft m_imageBites m_imageMany m_wasLeft m_wasBites m_wasMany m_hasImage m_letterMany m_rowMany m_place m_seed m_kind m_figure m_imageKind m_imageFigure m_wasKind m_wasFigure m_letters m_row m_refused m_numbers m_counted m_few (-2 : Int32) r24 q25) (gV uu1070 uu1072 uu1571 uu6 uu1073) hd_X6_no rfl ⟨rfl, rfl⟩ ⟨Nat.le_of_ble_eq_true rfl, Nat.le_of_ble_eq_true rfl⟩ ⟨Nat.le_of_ble_eq_true rfl, Nat.le_of_ble_eq_true rfl⟩ rfl rfl rfl (Nat.le_of_ble_eq_true rfl) rfl dX6_shares_12 (fun _ => ?_)
    obtain rfl := Option.some.inj hf
    exact s_iret C (fun i => i) hr hlk rfl rfl dX6_shares_15

theorem sw_out_X6_pieces_9 {x : Int32} (h0 : ¬ x = (0 : Int32)) (h1 : ¬ x = (1 : Int32)) (h2 : ¬ x = (2 : Int32)) (h3 : ¬ x = (3 : Int32)) : x.toInt < 0 ∨ 3 < x.toInt := by
  have e0 := ne_toInt h0
  rw [show ((0 : Int32) : Int32).toInt = 0 from by decide] at e0
  have e1 := ne_toInt h1
  rw [show ((1 : Int32) : Int32).toInt = 1 from by decide] at e1
  have e2 := ne_toInt h2
  rw [show ((2 : Int32) : Int32).toInt = 2 from by decide] at e2
  have e3 := ne_toInt h3
  rw [show ((3 : Int32) : Int32).toInt = 3 from by decide] at e3
  omega
theorem hd_X6_pieces : yX6_pieces.cls = RX6 ∧ yX6_pieces.cls ≠ "java/lang/invoke/MethodHandle" ∧ yX6_pieces.cls ≠ "java/lang/invoke/VarHandle" ∧ (parseMethodDescriptor yX6_pieces.desc).map (fun d => d.parameters.length) = some 1 := by decide +kernel
set_option maxHeartbeats 4000000 in
set_option maxRecDepth 100000 in
theorem c_X6_pieces (l : Launch) (D : va_G) (cI : ClassId) (adK adV : Nat → Nat) (ad : Nat → Nat) (m_left : Int32) (m_bites : Int32) (m_many : Int32) (m_imageLeft : Int32) (m_imageBites : Int32) (m_imageMany : Int32) (m_wasLeft : Int32) (m_wasBites : Int32) (m_wasMany : Int32) (m_hasImage : Int32) (m_letterMany : Int32) (m_rowMany : Int32) (m_place : Int32) (m_seed : Int32) (m_kind : (Nat → Int32)) (m_figure : (Nat → Int32)) (m_imageKind : (Nat → Int32)) (m_imageFigure : (Nat → Int32)) (m_wasKind : (Nat → Int32)) (m_wasFigure : (Nat → Int32)) (m_letters : (Nat → Int32)) (m_row : (Nat → Int32)) (m_refused : (Nat → Int32)) (m_numbers : (Nat → Int32)) (m_counted : (Nat → Int32)) (m_few : (Nat → Int32)) (a1 : Int32) (o : Int32 × (Nat → Int32)) (hf : f_X6_pieces m_left m_refused a1 = some o) : Ct l D cI adK adV yX6_pieces (wy yX6_pieces cX6_pieces 3 (some .int)) { frames := 3, cells := 0, slots := 0, locals := 69 } 0 0 [.ref (ad 0), .int a1] (wM ad cI m_left m_bites m_many m_imageLeft m_imageBites m_imageMany m_wasLeft m_wasBites m_wasMany m_hasImage m_letterMany m_rowMany m_place m_seed m_kind m_figure m_imageKind m_imageFigure m_wasKind m_wasFigure m_letters m_row m_refused m_numbers m_counted m_few) (fun _ => (wM ad cI m_left m_bites m_many m_imageLeft m_imageBites m_imageMany m_wasLeft m_wasBites m_wasMany m_hasImage m_letterMany m_rowMany m_place m_seed m_kind m_figure m_imageKind m_imageFigure m_wasKind m_wasFigure m_letters m_row o.2 m_numbers m_counted m_few)) (some (.int o.1)) := by
  refine Ct.of (cc := cX6_pieces) (nL := 3) (ret := (some .int)) (own := RX6) (by decide) (Nat.le_of_ble_eq_true rfl) rfl ?_
  intro p e s m args below meth c A C hr hlk hnm
  refine s_lv (lv1 := [(0, .ref (ad 0)), (1, .int a1)]) [0, 1] rfl ?_
  unfold f_X6_pieces at hf
  refine s_aload_n C 1 0 rfl dX6_pieces_0 rfl ?_
  refine s_get (C1 := RX6) (T := TX6) (N := 26) (ci := 5) C 4 0 0 uX6 rfl rfl (Nat.le_of_ble_eq_true rfl) uu986 rfl rfl rfl dX6_pieces_1 ?_
  obtain ⟨r1, q2, hf⟩ := bn_s hf
  refine s_callS0 (host := "") (rest := []) C 7 (c_X6_deed l D cI adK adV m_left r1 q2) (gS uu1208 uu1210 uu6 uu1211) hd_X6_deed rfl ⟨rfl, rfl⟩ ⟨Nat.le_of_ble_eq_true rfl, Nat.le_of_ble_eq_true rfl⟩ ⟨Nat.le_of_ble_eq_true rfl, Nat.le_of_ble_eq_true rfl⟩ rfl (Nat.le_of_ble_eq_true rfl) rfl dX6_pieces_4 ?_
  refine s_istore_n (lv1 := [(2, .int r1), (0, .ref (ad 0)), (1, .int a1)]) C 8 2 rfl dX6_pieces_7 rfl (Nat.le_of_ble_eq_true rfl) rfl ?_
  refine s_iload_n C 9 2 rfl dX6_pieces_8 rfl ?_
  by_cases hc5 : a1 = (0 : Int32)
  · replace hf := ite_t hc5 hf
    refine s_tableIn (off := 31) C 40 dX6_pieces_9 (by rw [hc5]; decide) (by rw [hc5]; decide) (by rw [hc5]; rfl) rfl ?_
    refine s_aload_n C 41 1 rfl dX6_pieces_40 rfl ?_
    refine s_get (C1 := RX6) (T := TX6) (N := 26) (ci := 5) C 44 0 0 uX6 rfl rfl (Nat.le_of_ble_eq_true rfl) uu986 rfl rfl rfl dX6_pieces_41 ?_
    obtain ⟨r3, q4, hf⟩ := bn_s hf
    refine s_callS0 (host := "") (rest := []) C 47 (c_X6_heaps l D cI adK adV m_left r3 q4) (gS uu1228 uu1230 uu6 uu1231) hd_X6_heaps rfl ⟨rfl, rfl⟩ ⟨Nat.le_of_ble_eq_true rfl, Nat.le_of_ble_eq_true rfl⟩ ⟨Nat.le_of_ble_eq_true rfl, Nat.le_of_ble_eq_true rfl⟩ rfl (Nat.le_of_ble_eq_true rfl) rfl dX6_pieces_44 ?_
    obtain rfl := Option.some.inj hf
    exact s_iret C (fun i => i) hr hlk rfl rfl dX6_pieces_47
  · replace hf := ite_f hc5 hf
    by_cases hc8 : a1 = (1 : Int32)
    · replace hf := ite_t hc8 hf
      refine s_tableIn (off := 39) C 48 dX6_pieces_9 (by rw [hc8]; decide) (by rw [hc8]; decide) (by rw [hc8]; rfl) rfl ?_
      refine s_aload_n C 49 1 rfl dX6_pieces_48 rfl ?_
      refine s_get (C1 := RX6) (T := TX6) (N := 26) (ci := 5) C 52 0 0 uX6 rfl rfl (Nat.le_of_ble_eq_true rfl) uu986 rfl rfl rfl dX6_pieces_49 ?_
      obtain ⟨r6, q7, hf⟩ := bn_s hf
      refine s_callS0 (host := "") (rest := []) C 55 (c_X6_leastHeap l D cI adK adV m_left r6 q7) (gS uu1285 uu1287 uu6 uu1288) hd_X6_leastHeap rfl ⟨rfl, rfl⟩ ⟨Nat.le_of_ble_eq_true rfl, Nat.le_of_ble_eq_true rfl⟩ ⟨Nat.le_of_ble_eq_true rfl, Nat.le_of_ble_eq_true rfl⟩ rfl (Nat.le_of_ble_eq_true rfl) rfl dX6_pieces_52 ?_
      obtain rfl := Option.some.inj hf
      exact s_iret C (fun i => i) hr hlk rfl rfl dX6_pieces_55
    · replace hf := ite_f hc8 hf
      by_cases hc12 : a1 = (2 : Int32)
      · replace hf := ite_t hc12 hf
        refine s_tableIn (off := 47) C 56 dX6_pieces_9 (by rw [hc12]; decide) (by rw [hc12]; decide) (by rw [hc12]; rfl) rfl ?_
        refine s_iload_n C 57 0 rfl dX6_pieces_56 rfl ?_
        refine s_if_ne C 65 60 rfl dX6_pieces_57 rfl (fun hc11 => ?_) (fun hc11 => ?_)
        · replace hf := ite_f hc11 hf
          refine s_iload_n C 66 0 rfl dX6_pieces_65 rfl ?_
          obtain ⟨r9, q10, hf⟩ := bn_s hf
          refine s_callS0 (host := "") (rest := []) C 69 (c_X6_leastOf l D cI adK adV r1 r9 q10) (gS uu1213 uu1215 uu6 uu1216) hd_X6_leastOf rfl ⟨rfl, rfl⟩ ⟨Nat.le_of_ble_eq_true rfl, Nat.le_of_ble_eq_true rfl⟩ ⟨Nat.le_of_ble_eq_true rfl, Nat.le_of_ble_eq_true rfl⟩ rfl (Nat.le_of_ble_eq_true rfl) rfl dX6_pieces_66 ?_
          obtain rfl := Option.some.inj hf
          exact s_iret C (fun i => i) hr hlk rfl rfl dX6_pieces_69
        · replace hf := ite_t hc11 hf
          refine s_bipush C 62 rfl dX6_pieces_60 bp_m9 ?_
          refine s_goto C 69 dX6_pieces_62 rfl ?_
          obtain rfl := Option.some.inj hf
          exact s_iret C (fun i => i) hr hlk rfl rfl dX6_pieces_69
      · replace hf := ite_f hc12 hf
        by_cases hc16 : a1 = (3 : Int32)
        · replace hf := ite_t hc16 hf
          refine s_tableIn (off := 61) C 70 dX6_pieces_9 (by rw [hc16]; decide) (by rw [hc16]; decide) (by rw [hc16]; rfl) rfl ?_
          refine s_iload_n C 71 0 rfl dX6_pieces_70 rfl ?_
          refine s_if_ne C 79 74 rfl dX6_pieces_71 rfl (fun hc15 => ?_) (fun hc15 => ?_)
          · replace hf := ite_f hc15 hf
            refine s_iload_n C 80 0 rfl dX6_pieces_79 rfl ?_
            obtain ⟨r13, q14, hf⟩ := bn_s hf
            refine s_callS0 (host := "") (rest := []) C 83 (c_X6_bits l D cI adK adV r1 r13 q14) (gS uu1177 uu1179 uu6 uu1180) hd_X6_bits rfl ⟨rfl, rfl⟩ ⟨Nat.le_of_ble_eq_true rfl, Nat.le_of_ble_eq_true rfl⟩ ⟨Nat.le_of_ble_eq_true rfl, Nat.le_of_ble_eq_true rfl⟩ rfl (Nat.le_of_ble_eq_true rfl) rfl dX6_pieces_80 ?_
            obtain rfl := Option.some.inj hf
            exact s_iret C (fun i => i) hr hlk rfl rfl dX6_pieces_83
          · replace hf := ite_t hc15 hf
            refine s_bipush C 76 rfl dX6_pieces_74 bp_m9 ?_
            refine s_goto C 83 dX6_pieces_76 rfl ?_
            obtain rfl := Option.some.inj hf
            exact s_iret C (fun i => i) hr hlk rfl rfl dX6_pieces_83
        · replace hf := ite_f hc16 hf
          refine s_tableOut C 84 dX6_pieces_9 (sw_out_X6_pieces_9 hc5 hc8 hc12 hc16) rfl ?_
          refine s_aload_n C 85 1 rfl dX6_pieces_84 rfl ?_
          refine s_bipush C 87 rfl dX6_pieces_85 bp_m2 ?_
          obtain ⟨r17, q18, hf⟩ := bn_s hf
          refine s_callW (T := TX6) (N := 26) (ci := 5) (q0 := 0) (rest := []) C 90 (c_X6_no l D cI adK adV ad m_left m_bites m_many m_imageLeft m_imageBites m_imageMany m_wasLeft m_wasBites m_wasMany m_hasImage m_letterMany m_rowMany m_place m_seed m_kind m_figure m_imageKind m_imageFigure m_wasKind m_wasFigure m_letters m_row m_refused m_numbers m_counted m_few (-2 : Int32) r17 q18) (gV uu1070 uu1072 uu1571 uu6 uu1073) hd_X6_no rfl ⟨rfl, rfl⟩ ⟨Nat.le_of_ble_eq_true rfl, Nat.le_of_ble_eq_true rfl⟩ ⟨Nat.le_of_ble_eq_true rfl, Nat.le_of_ble_eq_true rfl⟩ rfl rfl rfl (Nat.le_of_ble_eq_true rfl) rfl dX6_pieces_87 (fun _ => ?_)
          obtain rfl := Option.some.inj hf
          exact s_iret C (fun i => i) hr hlk rfl rfl dX6_pieces_90


theorem hd_X6_edge : yX6_edge.cls = RX6 ∧ yX6_edge.cls ≠ "java/lang/invoke/MethodHandle" ∧ yX6_edge.cls ≠ "java/lang/invoke/VarHandle" ∧ (parseMethodDescriptor yX6_edge.desc).map (fun d => d.parameters.length) = some 1 := by decide +kernel
set_option maxHeartbeats 4000000 in
set_option maxRecDepth 100000 in
theorem c_X6_edge (l : Launch) (D : va_G) (cI : ClassId) (adK adV : Nat → Nat) (ad : Nat → Nat) (m_left : Int32) (m_bites : Int32) (m_many : Int32) (m_imageLeft : Int32) (m_imageBites : Int32) (m_imageMany : Int32) (m_wasLeft : Int32) (m_wasBites : Int32) (m_wasMany : Int32) (m_hasImage : Int32) (m_letterMany : Int32) (m_rowMany : Int32) (m_place : Int32) (m_seed : Int32) (m_kind : (Nat → Int32)) (m_figure : (Nat → Int32)) (m_imageKind : (Nat → Int32)) (m_imageFigure : (Nat → Int32)) (m_wasKind : (Nat → Int32)) (m_wasFigure : (Nat → Int32)) (m_letters : (Nat → Int32)) (m_row : (Nat → Int32)) (m_refused : (Nat → Int32)) (m_numbers : (Nat → Int32)) (m_counted : (Nat → Int32)) (m_few : (Nat → Int32)) (a1 : Int32) (o : Int32 × (Nat → Int32)) (hf : f_X6_edge m_left m_refused a1 = some o) : Ct l D cI adK adV yX6_edge (wy yX6_edge cX6_edge 5 (some .int)) { frames := 2, cells := 0, slots := 0, locals := 45 } 0 0 [.ref (ad 0), .int a1] (wM ad cI m_left m_bites m_many m_imageLeft m_imageBites m_imageMany m_wasLeft m_wasBites m_wasMany m_hasImage m_letterMany m_rowMany m_place m_seed m_kind m_figure m_imageKind m_imageFigure m_wasKind m_wasFigure m_letters m_row m_refused m_numbers m_counted m_few) (fun _ => (wM ad cI m_left m_bites m_many m_imageLeft m_imageBites m_imageMany m_wasLeft m_wasBites m_wasMany m_hasImage m_letterMany m_rowMany m_place m_seed m_kind m_figure m_imageKind m_imageFigure m_wasKind m_wasFigure m_letters m_row o.2 m_numbers m_counted m_few)) (some (.int o.1)) := by
  refine Ct.of (cc := cX6_edge) (nL := 5) (ret := (some .int)) (own := RX6) (by decide) (Nat.le_of_ble_eq_true rfl) rfl ?_
  intro p e s m args below meth c A C hr hlk hnm
  refine s_lv (lv1 := [(0, .ref (ad 0)), (1, .int a1)]) [0, 1] rfl ?_
  unfold f_X6_edge at hf
  refine s_iload_n C 1 1 rfl dX6_edge_0 rfl ?_
  refine s_iconst C 2 rfl dX6_edge_1 ic_0 ?_
  refine s_iconst C 3 rfl dX6_edge_2 ic_1 ?_
  obtain ⟨r1, q2, hf⟩ := bn_s hf
  refine s_callS0 (host := "") (rest := []) C 6 (c_X6_isIn l D cI adK adV a1 (0 : Int32) (1 : Int32) r1 q2) (gS uu1106 uu1108 uu6 uu1109) hd_X6_isIn rfl ⟨rfl, rfl⟩ ⟨Nat.le_of_ble_eq_true rfl, Nat.le_of_ble_eq_true rfl⟩ ⟨Nat.le_of_ble_eq_true rfl, Nat.le_of_ble_eq_true rfl⟩ rfl (Nat.le_of_ble_eq_true rfl) rfl dX6_edge_3 ?_
  refine s_if_ne C 16 9 rfl dX6_edge_6 rfl (fun hc54 => ?_) (fun hc54 => ?_)
  · replace hf := ite_f hc54 hf
    refine s_iconst C 17 rfl dX6_edge_16 ic_0 ?_
    refine s_istore_n (lv1 := [(2, .int (0 : Int32)), (0, .ref (ad 0)), (1, .int a1)]) C 18 2 rfl dX6_edge_17 rfl (Nat.le_of_ble_eq_true rfl) rfl ?_
    refine s_ldc C 20 rfl dX6_edge_18 uu984 ?_
    refine s_aload_n C 21 1 rfl dX6_edge_20 rfl ?_
    refine s_get (C1 := RX6) (T := TX6) (N := 26) (ci := 5) C 24 0 0 uX6 rfl rfl (Nat.le_of_ble_eq_true rfl) uu986 rfl rfl rfl dX6_edge_21 ?_
    refine s_iconst C 25 rfl dX6_edge_24 ic_m1 ?_
    refine s_ixor C 26 rfl dX6_edge_25 ?_
    refine s_iand C 27 rfl dX6_edge_26 ?_
    refine s_istore_n (lv1 := [(3, .int ((33554431 : Int32) &&& (m_left ^^^ (-1 : Int32)))), (2, .int (0 : Int32)), (0, .ref (ad 0)), (1, .int a1)]) C 28 3 rfl dX6_edge_27 rfl (Nat.le_of_ble_eq_true rfl) rfl ?_
    refine s_iload_n C 29 3 rfl dX6_edge_28 rfl ?_
    refine s_if_ne C 86 32 rfl dX6_edge_29 rfl (fun hc51 => ?_) (fun hc51 => ?_)
    · replace hf := ite_f hc51 hf
      refine s_iload_n C 87 0 rfl dX6_edge_86 rfl ?_
      refine s_istore (lv1 := [(4, .int ((33554431 : Int32) &&& (m_left ^^^ (-1 : Int32)))), (3, .int ((33554431 : Int32) &&& (m_left ^^^ (-1 : Int32)))), (2, .int (0 : Int32)), (0, .ref (ad 0)), (1, .int a1)]) C 89 4 rfl dX6_edge_87 (Nat.le_of_ble_eq_true rfl) rfl ?_
      refine s_lv (lv1 := [(2, .int (0 : Int32)), (3, .int ((33554431 : Int32) &&& (m_left ^^^ (-1 : Int32)))), (4, .int ((33554431 : Int32) &&& (m_left ^^^ (-1 : Int32))))]) [2, 1, 0] rfl ?_
      refine s_loop (α := Int32 × Int32) (fun n v16 => f_X6_edge_89 ((33554431 : Int32) &&& (m_left ^^^ (-1 : Int32))) m_refused n v16.1 v16.2) 89 (fun v16 => [(2, .int v16.1), (3, .int ((33554431 : Int32) &&& (m_left ^^^ (-1 : Int32)))), (4, .int v16.2)]) (fun v16 => (wM ad cI m_left m_bites m_many m_imageLeft m_imageBites m_imageMany m_wasLeft m_wasBites m_wasMany m_hasImage m_letterMany m_rowMany m_place m_seed m_kind m_figure m_imageKind m_imageFigure m_wasKind m_wasFigure m_letters m_row m_refused m_numbers m_counted m_few)) 1000 ((0 : Int32), (33554431 : Int32) &&& (m_left ^^^ (-1 : Int32))) hf (fun v16 hf => by simp only [f_X6_edge_89] at hf; exact absurd hf (by simp)) (fun n ih17 v16 hf => ?_)
      replace hf := (f_X6_edge_89_s _ _ _ _ _).symm.trans hf
      refine s_iload C 91 2 rfl dX6_edge_89 rfl ?_
      refine s_if_eq C 137 94 rfl dX6_edge_91 rfl (fun hc30 => ?_) (fun hc30 => ?_)
      · replace hf := ite_t hc30 hf
        refine s_iload_n C 138 0 rfl dX6_edge_137 rfl ?_
        obtain rfl := Option.some.inj hf
        exact s_iret C (fun i => i) hr hlk rfl rfl dX6_edge_138
      · replace hf := ite_f hc30 hf
        refine s_iload_n C 95 0 rfl dX6_edge_94 rfl ?_
        refine s_iload_n C 96 1 rfl dX6_edge_95 rfl ?_
        refine s_iload C 98 2 rfl dX6_edge_96 rfl ?_
        obtain ⟨r18, q19, hf⟩ := bn_s hf
        refine s_callS0 (host := "") (rest := [.int ((33554431 : Int32) &&& (m_left ^^^ (-1 : Int32))), .int v16.1]) C 101 (c_X6_leastOf l D cI adK adV v16.2 r18 q19) (gS uu1213 uu1215 uu6 uu1216) hd_X6_leastOf rfl ⟨rfl, rfl⟩ ⟨Nat.le_of_ble_eq_true rfl, Nat.le_of_ble_eq_true rfl⟩ ⟨Nat.le_of_ble_eq_true rfl, Nat.le_of_ble_eq_true rfl⟩ rfl (Nat.le_of_ble_eq_true rfl) rfl dX6_edge_98 ?_
        obtain ⟨r20, q21, hf⟩ := bn_s hf
        refine s_callS0 (host := "") (rest := [.int v16.1]) C 104 (c_X6_heapOf l D cI adK adV ((33554431 : Int32) &&& (m_left ^^^ (-1 : Int32))) r18 r20 q21) (gS uu1182 uu1184 uu6 uu1185) hd_X6_heapOf rfl ⟨rfl, rfl⟩ ⟨Nat.le_of_ble_eq_true rfl, Nat.le_of_ble_eq_true rfl⟩ ⟨Nat.le_of_ble_eq_true rfl, Nat.le_of_ble_eq_true rfl⟩ rfl (Nat.le_of_ble_eq_true rfl) rfl dX6_edge_101 ?_
        obtain ⟨r22, q23, hf⟩ := bn_s hf
        refine s_callS0 (host := "") (rest := [.int r20, .int v16.1]) C 107 (c_X6_border l D cI adK adV r22 q23) (gS uu1296 uu1298 uu6 uu1299) hd_X6_border rfl ⟨rfl, rfl⟩ ⟨Nat.le_of_ble_eq_true rfl, Nat.le_of_ble_eq_true rfl⟩ ⟨Nat.le_of_ble_eq_true rfl, Nat.le_of_ble_eq_true rfl⟩ rfl (Nat.le_of_ble_eq_true rfl) rfl dX6_edge_104 ?_
        refine s_iand C 108 rfl dX6_edge_107 ?_
        refine s_jn (α := Int32) 116 (fun j24 => [(3, .int ((33554431 : Int32) &&& (m_left ^^^ (-1 : Int32)))), (4, .int v16.2)]) (fun j24 => [.int j24, .int v16.1]) (fun j24 => (wM ad cI m_left m_bites m_many m_imageLeft m_imageBites m_imageMany m_wasLeft m_wasBites m_wasMany m_hasImage m_letterMany m_rowMany m_place m_seed m_kind m_figure m_imageKind m_imageFigure m_wasKind m_wasFigure m_letters m_row m_refused m_numbers m_counted m_few)) hf (fun j24 hf => ?_) (fun hj hf => ?_)
        · refine s_iadd C 117 rfl dX6_edge_116 ?_
          refine s_istore_n (lv1 := [(2, .int (v16.1 + j24)), (3, .int ((33554431 : Int32) &&& (m_left ^^^ (-1 : Int32)))), (4, .int v16.2)]) C 118 2 rfl dX6_edge_117 rfl (Nat.le_of_ble_eq_true rfl) rfl ?_
          refine s_iload C 120 2 rfl dX6_edge_118 rfl ?_
          refine s_iload_n C 121 1 rfl dX6_edge_120 rfl ?_
          refine s_iload C 123 2 rfl dX6_edge_121 rfl ?_
          obtain ⟨r26, q27, hf⟩ := bn_s hf
          refine s_callS0 (host := "") (rest := [.int ((33554431 : Int32) &&& (m_left ^^^ (-1 : Int32))), .int v16.2]) C 126 (c_X6_leastOf l D cI adK adV v16.2 r26 q27) (gS uu1213 uu1215 uu6 uu1216) hd_X6_leastOf rfl ⟨rfl, rfl⟩ ⟨Nat.le_of_ble_eq_true rfl, Nat.le_of_ble_eq_true rfl⟩ ⟨Nat.le_of_ble_eq_true rfl, Nat.le_of_ble_eq_true rfl⟩ rfl (Nat.le_of_ble_eq_true rfl) rfl dX6_edge_123 ?_
          obtain ⟨r28, q29, hf⟩ := bn_s hf
          refine s_callS0 (host := "") (rest := [.int v16.2]) C 129 (c_X6_heapOf l D cI adK adV ((33554431 : Int32) &&& (m_left ^^^ (-1 : Int32))) r26 r28 q29) (gS uu1182 uu1184 uu6 uu1185) hd_X6_heapOf rfl ⟨rfl, rfl⟩ ⟨Nat.le_of_ble_eq_true rfl, Nat.le_of_ble_eq_true rfl⟩ ⟨Nat.le_of_ble_eq_true rfl, Nat.le_of_ble_eq_true rfl⟩ rfl (Nat.le_of_ble_eq_true rfl) rfl dX6_edge_126 ?_
          refine s_iconst C 130 rfl dX6_edge_129 ic_m1 ?_
          refine s_ixor C 131 rfl dX6_edge_130 ?_
          refine s_iand C 132 rfl dX6_edge_131 ?_
          refine s_istore (lv1 := [(4, .int (v16.2 &&& (r28 ^^^ (-1 : Int32)))), (2, .int (v16.1 + j24)), (3, .int ((33554431 : Int32) &&& (m_left ^^^ (-1 : Int32))))]) C 134 4 rfl dX6_edge_132 (Nat.le_of_ble_eq_true rfl) rfl ?_
          refine s_goto C 89 dX6_edge_134 rfl ?_
          exact s_lv [1, 2, 0] rfl (ih17 ((v16.1 + j24, v16.2 &&& (r28 ^^^ (-1 : Int32))) : Int32 × Int32) hf)
        · refine s_if_ne C 115 111 rfl dX6_edge_108 rfl (fun hc25 => ?_) (fun hc25 => ?_)
          · replace hf := jn_f hc25 hf
            refine s_iconst C 116 rfl dX6_edge_115 ic_0 ?_
            replace hf := jn_i hf
            exact s_lv [1, 2] rfl (hj ((0 : Int32) : Int32) hf)
          · replace hf := jn_t hc25 hf
            refine s_iconst C 112 rfl dX6_edge_111 ic_1 ?_
            refine s_goto C 116 dX6_edge_112 rfl ?_
            replace hf := jn_i hf
            exact s_lv [1, 2] rfl (hj ((1 : Int32) : Int32) hf)
    · replace hf := ite_t hc51 hf
      refine s_iconst C 33 rfl dX6_edge_32 ic_0 ?_
      refine s_istore (lv1 := [(4, .int (0 : Int32)), (3, .int ((33554431 : Int32) &&& (m_left ^^^ (-1 : Int32)))), (2, .int (0 : Int32)), (0, .ref (ad 0)), (1, .int a1)]) C 35 4 rfl dX6_edge_33 (Nat.le_of_ble_eq_true rfl) rfl ?_
      refine s_lv (lv1 := [(0, .ref (ad 0)), (2, .int (0 : Int32)), (4, .int (0 : Int32))]) [3, 2, 0] rfl ?_
      refine s_loop (α := Int32 × Int32) (fun n v40 => f_X6_edge_35 m_left m_refused n v40.1 v40.2) 35 (fun v40 => [(0, .ref (ad 0)), (2, .int v40.1), (4, .int v40.2)]) (fun v40 => (wM ad cI m_left m_bites m_many m_imageLeft m_imageBites m_imageMany m_wasLeft m_wasBites m_wasMany m_hasImage m_letterMany m_rowMany m_place m_seed m_kind m_figure m_imageKind m_imageFigure m_wasKind m_wasFigure m_letters m_row m_refused m_numbers m_counted m_few)) 1000 ((0 : Int32), (0 : Int32)) hf (fun v40 hf => by simp only [f_X6_edge_35] at hf; exact absurd hf (by simp)) (fun n ih41 v40 hf => ?_)
      replace hf := (f_X6_edge_35_s _ _ _ _ _).symm.trans hf
      refine s_iload C 37 2 rfl dX6_edge_35 rfl ?_
      refine s_bipush C 39 rfl dX6_edge_37 bp_25 ?_
      refine s_icmp_ge C 84 42 rfl dX6_edge_39 rfl (fun hc50 => ?_) (fun hc50 => ?_)
      · replace hf := ite_t hc50 hf
        refine s_iload_n C 85 1 rfl dX6_edge_84 rfl ?_
        obtain rfl := Option.some.inj hf
        exact s_iret C (fun i => i) hr hlk rfl rfl dX6_edge_85
      · replace hf := ite_f hc50 hf
        refine s_iload_n C 43 1 rfl dX6_edge_42 rfl ?_
        refine s_aload_n C 44 0 rfl dX6_edge_43 rfl ?_
        refine s_get (C1 := RX6) (T := TX6) (N := 26) (ci := 5) C 47 0 0 uX6 rfl rfl (Nat.le_of_ble_eq_true rfl) uu986 rfl rfl rfl dX6_edge_44 ?_
        refine s_iload C 49 2 rfl dX6_edge_47 rfl ?_
        obtain ⟨r42, q43, hf⟩ := bn_s hf
        refine s_callS0 (host := "") (rest := [.int v40.1]) C 52 (c_X6_has l D cI adK adV m_left v40.2 r42 q43) (gS uu1218 uu1220 uu6 uu1221) hd_X6_has rfl ⟨rfl, rfl⟩ ⟨Nat.le_of_ble_eq_true rfl, Nat.le_of_ble_eq_true rfl⟩ ⟨Nat.le_of_ble_eq_true rfl, Nat.le_of_ble_eq_true rfl⟩ rfl (Nat.le_of_ble_eq_true rfl) rfl dX6_edge_49 ?_
        refine s_bn (α := Int32) 76 (fun j44 => [(0, .ref (ad 0)), (4, .int v40.2)]) (fun j44 => [.int j44, .int v40.1]) (fun j44 => (wM ad cI m_left m_bites m_many m_imageLeft m_imageBites m_imageMany m_wasLeft m_wasBites m_wasMany m_hasImage m_letterMany m_rowMany m_place m_seed m_kind m_figure m_imageKind m_imageFigure m_wasKind m_wasFigure m_letters m_row m_refused m_numbers m_counted m_few)) hf (fun j44 hf => ?_) (fun hj hf => ?_)
        · refine s_iadd C 77 rfl dX6_edge_76 ?_
          refine s_istore_n (lv1 := [(2, .int (v40.1 + j44)), (0, .ref (ad 0)), (4, .int v40.2)]) C 78 2 rfl dX6_edge_77 rfl (Nat.le_of_ble_eq_true rfl) rfl ?_
          refine s_iinc (lv1 := [(4, .int (v40.2 + (1 : Int32))), (2, .int (v40.1 + j44)), (0, .ref (ad 0))]) C 81 4 2 rfl dX6_edge_78 rfl ic_1 (Nat.le_of_ble_eq_true rfl) rfl ?_
          refine s_goto C 35 dX6_edge_81 rfl ?_
          exact s_lv [2, 1, 0] rfl (ih41 ((v40.1 + j44, v40.2 + (1 : Int32)) : Int32 × Int32) hf)
        · refine s_if_eq C 75 55 rfl dX6_edge_52 rfl (fun hc49 => ?_) (fun hc49 => ?_)
          · replace hf := bn_t hc49 hf
            refine s_iconst C 76 rfl dX6_edge_75 ic_0 ?_
            replace hf := bn_i hf
            exact s_lv [0, 2] rfl (hj ((0 : Int32) : Int32) hf)
          · replace hf := bn_f hc49 hf
            refine s_iconst C 56 rfl dX6_edge_55 ic_4 ?_
            refine s_iconst C 57 rfl dX6_edge_56 ic_1 ?_
            refine s_iload C 59 2 rfl dX6_edge_57 rfl ?_
            refine s_ishl C 60 rfl dX6_edge_59 ?_
            obtain ⟨r45, q46, hf⟩ := bn_b hf
            refine s_callS0 (host := "") (rest := [.int (4 : Int32), .int v40.1]) C 63 (c_X6_besideOf l D cI adK adV (jshl (1 : Int32) v40.2) r45 q46) (gS uu1172 uu1174 uu6 uu1175) hd_X6_besideOf rfl ⟨rfl, rfl⟩ ⟨Nat.le_of_ble_eq_true rfl, Nat.le_of_ble_eq_true rfl⟩ ⟨Nat.le_of_ble_eq_true rfl, Nat.le_of_ble_eq_true rfl⟩ rfl (Nat.le_of_ble_eq_true rfl) rfl dX6_edge_60 ?_
            refine s_aload_n C 64 0 rfl dX6_edge_63 rfl ?_
            refine s_get (C1 := RX6) (T := TX6) (N := 26) (ci := 5) C 67 0 0 uX6 rfl rfl (Nat.le_of_ble_eq_true rfl) uu986 rfl rfl rfl dX6_edge_64 ?_
            refine s_iand C 68 rfl dX6_edge_67 ?_
            obtain ⟨r47, q48, hf⟩ := bn_b hf
            refine s_callS0 (host := "") (rest := [.int (4 : Int32), .int v40.1]) C 71 (c_X6_bits l D cI adK adV (r45 &&& m_left) r47 q48) (gS uu1177 uu1179 uu6 uu1180) hd_X6_bits rfl ⟨rfl, rfl⟩ ⟨Nat.le_of_ble_eq_true rfl, Nat.le_of_ble_eq_true rfl⟩ ⟨Nat.le_of_ble_eq_true rfl, Nat.le_of_ble_eq_true rfl⟩ rfl (Nat.le_of_ble_eq_true rfl) rfl dX6_edge_68 ?_
            refine s_isub C 72 rfl dX6_edge_71 ?_
            refine s_goto C 76 dX6_edge_72 rfl ?_
            replace hf := bn_i hf
            exact s_lv [0, 2] rfl (hj ((4 : Int32) - r47 : Int32) hf)
  · replace hf := ite_t hc54 hf
    refine s_aload_n C 10 0 rfl dX6_edge_9 rfl ?_
    refine s_bipush C 12 rfl dX6_edge_10 bp_m2 ?_
    obtain ⟨r52, q53, hf⟩ := bn_s hf
    refine s_callW (T := TX6) (N := 26) (ci := 5) (q0 := 0) (rest := []) C 15 (c_X6_no l D cI adK adV ad m_left m_bites m_many m_imageLeft m_imageBites m_imageMany m_wasLeft m_wasBites m_wasMany m_hasImage m_letterMany m_rowMany m_place m_seed m_kind m_figure m_imageKind m_imageFigure m_wasKind m_wasFigure m_letters m_row m_refused m_numbers m_counted m_few (-2 : Int32) r52 q53) (gV uu1070 uu1072 uu1571 uu6 uu1073) hd_X6_no rfl ⟨rfl, rfl⟩ ⟨Nat.le_of_ble_eq_true rfl, Nat.le_of_ble_eq_true rfl⟩ ⟨Nat.le_of_ble_eq_true rfl, Nat.le_of_ble_eq_true rfl⟩ rfl rfl rfl (Nat.le_of_ble_eq_true rfl) rfl dX6_edge_12 (fun _ => ?_)
    obtain rfl := Option.some.inj hf
    exact s_iret C (fun i => i) hr hlk rfl rfl dX6_edge_15


theorem hd_X6_best : yX6_best.cls = RX6 ∧ yX6_best.cls ≠ "java/lang/invoke/MethodHandle" ∧ yX6_best.cls ≠ "java/lang/invoke/VarHandle" ∧ (parseMethodDescriptor yX6_best.desc).map (fun d => d.parameters.length) = some 2 := by decide +kernel
set_option maxHeartbeats 4000000 in
set_option maxRecDepth 100000 in
theorem c_X6_best (l : Launch) (D : va_G) (cI : ClassId) (adK adV : Nat → Nat) (ad : Nat → Nat) (m_left : Int32) (m_bites : Int32) (m_many : Int32) (m_imageLeft : Int32) (m_imageBites : Int32) (m_imageMany : Int32) (m_wasLeft : Int32) (m_wasBites : Int32) (m_wasMany : Int32) (m_hasImage : Int32) (m_letterMany : Int32) (m_rowMany : Int32) (m_place : Int32) (m_seed : Int32) (m_kind : (Nat → Int32)) (m_figure : (Nat → Int32)) (m_imageKind : (Nat → Int32)) (m_imageFigure : (Nat → Int32)) (m_wasKind : (Nat → Int32)) (m_wasFigure : (Nat → Int32)) (m_letters : (Nat → Int32)) (m_row : (Nat → Int32)) (m_refused : (Nat → Int32)) (m_numbers : (Nat → Int32)) (m_counted : (Nat → Int32)) (m_few : (Nat → Int32)) (a1 : Int32) (a2 : Int32) (o : Int32 × (Nat → Int32)) (hf : f_X6_best m_left m_many m_kind m_figure m_refused a1 a2 = some o) : Ct l D cI adK adV yX6_best (wy yX6_best cX6_best 3 (some .int)) { frames := 7, cells := 0, slots := 0, locals := 169 } 0 0 [.ref (ad 0), .int a1, .int a2] (wM ad cI m_left m_bites m_many m_imageLeft m_imageBites m_imageMany m_wasLeft m_wasBites m_wasMany m_hasImage m_letterMany m_rowMany m_place m_seed m_kind m_figure m_imageKind m_imageFigure m_wasKind m_wasFigure m_letters m_row m_refused m_numbers m_counted m_few) (fun _ => (wM ad cI m_left m_bites m_many m_imageLeft m_imageBites m_imageMany m_wasLeft m_wasBites m_wasMany m_hasImage m_letterMany m_rowMany m_place m_seed m_kind m_figure m_imageKind m_imageFigure m_wasKind m_wasFigure m_letters m_row o.2 m_numbers m_counted m_few)) (some (.int o.1)) := by
  refine Ct.of (cc := cX6_best) (nL := 3) (ret := (some .int)) (own := RX6) (by decide) (Nat.le_of_ble_eq_true rfl) rfl ?_
  intro p e s m args below meth c A C hr hlk hnm
  refine s_lv (lv1 := [(0, .ref (ad 0)), (1, .int a1), (2, .int a2)]) [0, 1, 2] rfl ?_
  unfold f_X6_best at hf
  refine s_aload_n C 1 0 rfl dX6_best_0 rfl ?_
  refine s_iload_n C 2 1 rfl dX6_best_1 rfl ?_
  refine s_iload_n C 3 2 rfl dX6_best_2 rfl ?_
  refine s_iconst C 4 rfl dX6_best_3 ic_1 ?_
  obtain ⟨r1, q2, hf⟩ := bn_s hf
  refine s_callW (T := TX6) (N := 26) (ci := 5) (q0 := 0) (rest := []) C 7 (c_X6_biteTold l D cI adK adV ad m_left m_bites m_many m_imageLeft m_imageBites m_imageMany m_wasLeft m_wasBites m_wasMany m_hasImage m_letterMany m_rowMany m_place m_seed m_kind m_figure m_imageKind m_imageFigure m_wasKind m_wasFigure m_letters m_row m_refused m_numbers m_counted m_few a1 a2 (1 : Int32) r1 q2) (gV uu1307 uu1309 uu1584 uu6 uu1310) hd_X6_biteTold rfl ⟨rfl, rfl⟩ ⟨Nat.le_of_ble_eq_true rfl, Nat.le_of_ble_eq_true rfl⟩ ⟨Nat.le_of_ble_eq_true rfl, Nat.le_of_ble_eq_true rfl⟩ rfl rfl rfl (Nat.le_of_ble_eq_true rfl) rfl dX6_best_4 (fun _ => ?_)
  obtain rfl := Option.some.inj hf
  exact s_iret C (fun i => i) hr hlk rfl rfl dX6_best_7


theorem hd_X6_worst : yX6_worst.cls = RX6 ∧ yX6_worst.cls ≠ "java/lang/invoke/MethodHandle" ∧ yX6_worst.cls ≠ "java/lang/invoke/VarHandle" ∧ (parseMethodDescriptor yX6_worst.desc).map (fun d => d.parameters.length) = some 2 := by decide +kernel
set_option maxHeartbeats 4000000 in
set_option maxRecDepth 100000 in
theorem c_X6_worst (l : Launch) (D : va_G) (cI : ClassId) (adK adV : Nat → Nat) (ad : Nat → Nat) (m_left : Int32) (m_bites : Int32) (m_many : Int32) (m_imageLeft : Int32) (m_imageBites : Int32) (m_imageMany : Int32) (m_wasLeft : Int32) (m_wasBites : Int32) (m_wasMany : Int32) (m_hasImage : Int32) (m_letterMany : Int32) (m_rowMany : Int32) (m_place : Int32) (m_seed : Int32) (m_kind : (Nat → Int32)) (m_figure : (Nat → Int32)) (m_imageKind : (Nat → Int32)) (m_imageFigure : (Nat → Int32)) (m_wasKind : (Nat → Int32)) (m_wasFigure : (Nat → Int32)) (m_letters : (Nat → Int32)) (m_row : (Nat → Int32)) (m_refused : (Nat → Int32)) (m_numbers : (Nat → Int32)) (m_counted : (Nat → Int32)) (m_few : (Nat → Int32)) (a1 : Int32) (a2 : Int32) (o : Int32 × (Nat → Int32)) (hf : f_X6_worst m_left m_many m_kind m_figure m_refused a1 a2 = some o) : Ct l D cI adK adV yX6_worst (wy yX6_worst cX6_worst 3 (some .int)) { frames := 7, cells := 0, slots := 0, locals := 169 } 0 0 [.ref (ad 0), .int a1, .int a2] (wM ad cI m_left m_bites m_many m_imageLeft m_imageBites m_imageMany m_wasLeft m_wasBites m_wasMany m_hasImage m_letterMany m_rowMany m_place m_seed m_kind m_figure m_imageKind m_imageFigure m_wasKind m_wasFigure m_letters m_row m_refused m_numbers m_counted m_few) (fun _ => (wM ad cI m_left m_bites m_many m_imageLeft m_imageBites m_imageMany m_wasLeft m_wasBites m_wasMany m_hasImage m_letterMany m_rowMany m_place m_seed m_kind m_figure m_imageKind m_imageFigure m_wasKind m_wasFigure m_letters m_row o.2 m_numbers m_counted m_few)) (some (.int o.1)) := by
  refine Ct.of (cc := cX6_worst) (nL := 3) (ret := (some .int)) (own := RX6) (by decide) (Nat.le_of_ble_eq_true rfl) rfl ?_
  intro p e s m args below meth c A C hr hlk hnm
  refine s_lv (lv1 := [(0, .ref (ad 0)), (1, .int a1), (2, .int a2)]) [0, 1, 2] rfl ?_
  unfold f_X6_worst at hf
  refine s_aload_n C 1 0 rfl dX6_worst_0 rfl ?_
  refine s_iload_n C 2 1 rfl dX6_worst_1 rfl ?_
  refine s_iload_n C 3 2 rfl dX6_worst_2 rfl ?_
  refine s_iconst C 4 rfl dX6_worst_3 ic_m1 ?_
  obtain ⟨r1, q2, hf⟩ := bn_s hf
  refine s_callW (T := TX6) (N := 26) (ci := 5) (q0 := 0) (rest := []) C 7 (c_X6_biteTold l D cI adK adV ad m_left m_bites m_many m_imageLeft m_imageBites m_imageMany m_wasLeft m_wasBites m_wasMany m_hasImage m_letterMany m_rowMany m_place m_seed m_kind m_figure m_imageKind m_imageFigure m_wasKind m_wasFigure m_letters m_row m_refused m_numbers m_counted m_few a1 a2 (-1 : Int32) r1 q2) (gV uu1307 uu1309 uu1584 uu6 uu1310) hd_X6_biteTold rfl ⟨rfl, rfl⟩ ⟨Nat.le_of_ble_eq_true rfl, Nat.le_of_ble_eq_true rfl⟩ ⟨Nat.le_of_ble_eq_true rfl, Nat.le_of_ble_eq_true rfl⟩ rfl rfl rfl (Nat.le_of_ble_eq_true rfl) rfl dX6_worst_4 (fun _ => ?_)
  obtain rfl := Option.some.inj hf
  exact s_iret C (fun i => i) hr hlk rfl rfl dX6_worst_7


theorem hd_X6_fewest : yX6_fewest.cls = RX6 ∧ yX6_fewest.cls ≠ "java/lang/invoke/MethodHandle" ∧ yX6_fewest.cls ≠ "java/lang/invoke/VarHandle" ∧ (parseMethodDescriptor yX6_fewest.desc).map (fun d => d.parameters.length) = some 3 := by decide +kernel
set_option maxHeartbeats 4000000 in
set_option maxRecDepth 100000 in
theorem c_X6_fewest (l : Launch) (D : va_G) (cI : ClassId) (adK adV : Nat → Nat) (ad : Nat → Nat) (m_left : Int32) (m_bites : Int32) (m_many : Int32) (m_imageLeft : Int32) (m_imageBites : Int32) (m_imageMany : Int32) (m_wasLeft : Int32) (m_wasBites : Int32) (m_wasMany : Int32) (m_hasImage : Int32) (m_letterMany : Int32) (m_rowMany : Int32) (m_place : Int32) (m_seed : Int32) (m_kind : (Nat → Int32)) (m_figure : (Nat → Int32)) (m_imageKind : (Nat → Int32)) (m_imageFigure : (Nat → Int32)) (m_wasKind : (Nat → Int32)) (m_wasFigure : (Nat → Int32)) (m_letters : (Nat → Int32)) (m_row : (Nat → Int32)) (m_refused : (Nat → Int32)) (m_numbers : (Nat → Int32)) (m_counted : (Nat → Int32)) (m_few : (Nat → Int32)) (a1 : Int32) (a2 : Int32) (a3 : Int32) (o : Int32 × (Nat → Int32)) (hf : f_X6_fewest m_left m_many m_kind m_figure m_refused a1 a2 a3 = some o) : Ct l D cI adK adV yX6_fewest (wy yX6_fewest cX6_fewest 6 (some .int)) { frames := 9, cells := 0, slots := 0, locals := 220 } 0 0 [.ref (ad 0), .int a1, .int a2, .int a3] (wM ad cI m_left m_bites m_many m_imageLeft m_imageBites m_imageMany m_wasLeft m_wasBites m_wasMany m_hasImage m_letterMany m_rowMany m_place m_seed m_kind m_figure m_imageKind m_imageFigure m_wasKind m_wasFigure m_letters m_row m_refused m_numbers m_counted m_few) (fun _ => (wM ad cI m_left m_bites m_many m_imageLeft m_imageBites m_imageMany m_wasLeft m_wasBites m_wasMany m_hasImage m_letterMany m_rowMany m_place m_seed m_kind m_figure m_imageKind m_imageFigure m_wasKind m_wasFigure m_letters m_row o.2 m_numbers m_counted m_few)) (some (.int o.1)) := by
  refine Ct.of (cc := cX6_fewest) (nL := 6) (ret := (some .int)) (own := RX6) (by decide) (Nat.le_of_ble_eq_true rfl) rfl ?_
  intro p e s m args below meth c A C hr hlk hnm
  refine s_lv (lv1 := [(0, .ref (ad 0)), (1, .int a1), (2, .int a2), (3, .int a3)]) [0, 1, 2, 3] rfl ?_
  unfold f_X6_fewest at hf
  refine s_aload_n C 1 0 rfl dX6_fewest_0 rfl ?_
  refine s_iload_n C 2 1 rfl dX6_fewest_1 rfl ?_
  obtain ⟨r1, q2, hf⟩ := bn_s hf
  refine s_callW (T := TX6) (N := 26) (ci := 5) (q0 := 0) (rest := []) C 5 (c_X6_isHeir l D cI adK adV ad m_left m_bites m_many m_imageLeft m_imageBites m_imageMany m_wasLeft m_wasBites m_wasMany m_hasImage m_letterMany m_rowMany m_place m_seed m_kind m_figure m_imageKind m_imageFigure m_wasKind m_wasFigure m_letters m_row m_refused m_numbers m_counted m_few a1 r1 q2) (gV uu1193 uu1195 uu1581 uu6 uu1196) hd_X6_isHeir rfl ⟨rfl, rfl⟩ ⟨Nat.le_of_ble_eq_true rfl, Nat.le_of_ble_eq_true rfl⟩ ⟨Nat.le_of_ble_eq_true rfl, Nat.le_of_ble_eq_true rfl⟩ rfl rfl rfl (Nat.le_of_ble_eq_true rfl) rfl dX6_fewest_2 (fun _ => ?_)
  refine s_bn (α := Int32) 18 (fun j3 => [(0, .ref (ad 0)), (1, .int a1), (2, .int a2), (3, .int a3)]) (fun j3 => [.int j3]) (fun j3 => (wM ad cI m_left m_bites m_many m_imageLeft m_imageBites m_imageMany m_wasLeft m_wasBites m_wasMany m_hasImage m_letterMany m_rowMany m_place m_seed m_kind m_figure m_imageKind m_imageFigure m_wasKind m_wasFigure m_letters m_row m_refused m_numbers m_counted m_few)) hf (fun j3 hf => ?_) (fun hj hf => ?_)
  · refine s_istore (lv1 := [(4, .int j3), (0, .ref (ad 0)), (1, .int a1), (2, .int a2), (3, .int a3)]) C 20 4 rfl dX6_fewest_18 (Nat.le_of_ble_eq_true rfl) rfl ?_
    refine s_iload C 22 0 rfl dX6_fewest_20 rfl ?_
    refine s_bn (α := Int32) 38 (fun j7 => [(0, .ref (ad 0)), (1, .int a1), (2, .int a2), (3, .int a3), (4, .int j7)]) (fun j7 => []) (fun j7 => (wM ad cI m_left m_bites m_many m_imageLeft m_imageBites m_imageMany m_wasLeft m_wasBites m_wasMany m_hasImage m_letterMany m_rowMany m_place m_seed m_kind m_figure m_imageKind m_imageFigure m_wasKind m_wasFigure m_letters m_row m_refused m_numbers m_counted m_few)) hf (fun j7 hf => ?_) (fun hj hf => ?_)
    · refine s_iload C 40 4 rfl dX6_fewest_38 rfl ?_
      refine s_if_eq C 50 43 rfl dX6_fewest_40 rfl (fun hc30 => ?_) (fun hc30 => ?_)
      · replace hf := ite_t hc30 hf
        refine s_iconst C 51 rfl dX6_fewest_50 ic_0 ?_
        refine s_istore (lv1 := [(5, .int (0 : Int32)), (0, .ref (ad 0)), (1, .int a1), (2, .int a2), (3, .int a3), (4, .int j7)]) C 53 5 rfl dX6_fewest_51 (Nat.le_of_ble_eq_true rfl) rfl ?_
        refine s_lv (lv1 := [(0, .ref (ad 0)), (1, .int a1), (2, .int a2), (3, .int a3), (5, .int (0 : Int32))]) [1, 2, 3, 4, 0] rfl ?_
        refine s_kont (γ := Int32) (o := o) (fun KQ => f_X6_fewest_53 a1 a2 m_left m_kind m_figure m_refused KQ 1000 (0 : Int32) = some o) 74 (fun e17 => [(0, .ref (ad 0)), (1, .int a1), (2, .int a2), (3, .int a3), (5, .int e17)]) (fun e17 => []) (fun e17 => (wM ad cI m_left m_bites m_many m_imageLeft m_imageBites m_imageMany m_wasLeft m_wasBites m_wasMany m_hasImage m_letterMany m_rowMany m_place m_seed m_kind m_figure m_imageKind m_imageFigure m_wasKind m_wasFigure m_letters m_row m_refused m_numbers m_counted m_few)) hf (fun e17 hf => ?_) (fun k16 hk16 hf => ?_)
        · refine s_iload_n C 75 3 rfl dX6_fewest_74 rfl ?_
          refine s_if_ne C 83 78 rfl dX6_fewest_75 rfl (fun hc21 => ?_) (fun hc21 => ?_)
          · replace hf := ite_f hc21 hf
            refine s_iload C 85 4 rfl dX6_fewest_83 rfl ?_
            refine s_if_ne C 93 88 rfl dX6_fewest_85 rfl (fun hc20 => ?_) (fun hc20 => ?_)
            · replace hf := ite_f hc20 hf
              refine s_aload_n C 94 0 rfl dX6_fewest_93 rfl ?_
              refine s_iload_n C 95 1 rfl dX6_fewest_94 rfl ?_
              refine s_iload_n C 96 2 rfl dX6_fewest_95 rfl ?_
              refine s_iload C 98 4 rfl dX6_fewest_96 rfl ?_
              obtain ⟨r18, q19, hf⟩ := bn_s hf
              refine s_callW (T := TX6) (N := 26) (ci := 5) (q0 := 0) (rest := []) C 101 (c_X6_firstSo l D cI adK adV ad m_left m_bites m_many m_imageLeft m_imageBites m_imageMany m_wasLeft m_wasBites m_wasMany m_hasImage m_letterMany m_rowMany m_place m_seed m_kind m_figure m_imageKind m_imageFigure m_wasKind m_wasFigure m_letters m_row m_refused m_numbers m_counted m_few a1 a2 e17 r18 q19) (gV uu1339 uu1341 uu1587 uu6 uu1342) hd_X6_firstSo rfl ⟨rfl, rfl⟩ ⟨Nat.le_of_ble_eq_true rfl, Nat.le_of_ble_eq_true rfl⟩ ⟨Nat.le_of_ble_eq_true rfl, Nat.le_of_ble_eq_true rfl⟩ rfl rfl rfl (Nat.le_of_ble_eq_true rfl) rfl dX6_fewest_98 (fun _ => ?_)
              obtain rfl := Option.some.inj hf
              exact s_iret C (fun i => i) hr hlk rfl rfl dX6_fewest_101
            · replace hf := ite_t hc20 hf
              refine s_bipush C 90 rfl dX6_fewest_88 bp_m9 ?_
              refine s_goto C 101 dX6_fewest_90 rfl ?_
              obtain rfl := Option.some.inj hf
              exact s_iret C (fun i => i) hr hlk rfl rfl dX6_fewest_101
          · replace hf := ite_t hc21 hf
            refine s_iload C 80 4 rfl dX6_fewest_78 rfl ?_
            refine s_goto C 101 dX6_fewest_80 rfl ?_
            obtain rfl := Option.some.inj hf
            exact s_iret C (fun i => i) hr hlk rfl rfl dX6_fewest_101
        · skip
          refine s_loop (α := Int32) (fun n v22 => f_X6_fewest_53 a1 a2 m_left m_kind m_figure m_refused k16 n v22) 53 (fun v22 => [(0, .ref (ad 0)), (1, .int a1), (2, .int a2), (3, .int a3), (5, .int v22)]) (fun v22 => (wM ad cI m_left m_bites m_many m_imageLeft m_imageBites m_imageMany m_wasLeft m_wasBites m_wasMany m_hasImage m_letterMany m_rowMany m_place m_seed m_kind m_figure m_imageKind m_imageFigure m_wasKind m_wasFigure m_letters m_row m_refused m_numbers m_counted m_few)) 1000 (0 : Int32) hf (fun v22 hf => by simp only [f_X6_fewest_53] at hf; exact absurd hf (by simp)) (fun n ih23 v22 hf => ?_)
          replace hf := (f_X6_fewest_53_s _ _ _ _ _ _ _ _ _).symm.trans hf
          refine s_iload C 55 4 rfl dX6_fewest_53 rfl ?_
          refine s_iconst C 56 rfl dX6_fewest_55 ic_3 ?_
          refine s_icmp_ge C 108 59 rfl dX6_fewest_56 rfl (fun hc27 => ?_) (fun hc27 => ?_)
          · replace hf := ite_t hc27 hf
            refine s_bipush C 110 rfl dX6_fewest_108 bp_m9 ?_
            obtain rfl := Option.some.inj hf
            exact s_iret C (fun i => i) hr hlk rfl rfl dX6_fewest_110
          · replace hf := ite_f hc27 hf
            refine s_aload_n C 60 0 rfl dX6_fewest_59 rfl ?_
            refine s_aload_n C 61 0 rfl dX6_fewest_60 rfl ?_
            refine s_get (C1 := RX6) (T := TX6) (N := 26) (ci := 5) C 64 0 0 uX6 rfl rfl (Nat.le_of_ble_eq_true rfl) uu986 rfl rfl rfl dX6_fewest_61 ?_
            refine s_iload_n C 65 1 rfl dX6_fewest_64 rfl ?_
            refine s_iload_n C 66 2 rfl dX6_fewest_65 rfl ?_
            refine s_iload C 68 4 rfl dX6_fewest_66 rfl ?_
            obtain ⟨r24, q25, hf⟩ := bn_s hf
            refine s_callW (T := TX6) (N := 26) (ci := 5) (q0 := 0) (rest := []) C 71 (c_X6_isSoBy_2 l D cI adK adV ad m_left m_bites m_many m_imageLeft m_imageBites m_imageMany m_wasLeft m_wasBites m_wasMany m_hasImage m_letterMany m_rowMany m_place m_seed m_kind m_figure m_imageKind m_imageFigure m_wasKind m_wasFigure m_letters m_row m_refused m_numbers m_counted m_few m_left a1 a2 v22 r24 q25) (gV uu1334 uu1336 uu1586 uu6 uu1337) hd_X6_isSoBy rfl ⟨rfl, rfl⟩ ⟨Nat.le_of_ble_eq_true rfl, Nat.le_of_ble_eq_true rfl⟩ ⟨Nat.le_of_ble_eq_true rfl, Nat.le_of_ble_eq_true rfl⟩ rfl rfl rfl (Nat.le_of_ble_eq_true rfl) rfl dX6_fewest_68 (fun _ => ?_)
            refine s_if_eq C 102 74 rfl dX6_fewest_71 rfl (fun hc26 => ?_) (fun hc26 => ?_)
            · replace hf := ite_t hc26 hf
              refine s_iinc (lv1 := [(5, .int (v22 + (1 : Int32))), (0, .ref (ad 0)), (1, .int a1), (2, .int a2), (3, .int a3)]) C 105 5 4 rfl dX6_fewest_102 rfl ic_1 (Nat.le_of_ble_eq_true rfl) rfl ?_
              refine s_goto C 53 dX6_fewest_105 rfl ?_
              exact s_lv [1, 2, 3, 4, 0] rfl (ih23 (v22 + (1 : Int32) : Int32) hf)
            · replace hf := ite_f hc26 hf
              exact s_lv [0, 1, 2, 3, 4] rfl (hk16 (v22 : Int32) hf)
      · replace hf := ite_f hc30 hf
        refine s_aload_n C 44 0 rfl dX6_fewest_43 rfl ?_
        refine s_iload C 46 4 rfl dX6_fewest_44 rfl ?_
        obtain ⟨r28, q29, hf⟩ := bn_s hf
        refine s_callW (T := TX6) (N := 26) (ci := 5) (q0 := 0) (rest := []) C 49 (c_X6_no l D cI adK adV ad m_left m_bites m_many m_imageLeft m_imageBites m_imageMany m_wasLeft m_wasBites m_wasMany m_hasImage m_letterMany m_rowMany m_place m_seed m_kind m_figure m_imageKind m_imageFigure m_wasKind m_wasFigure m_letters m_row m_refused m_numbers m_counted m_few j7 r28 q29) (gV uu1070 uu1072 uu1571 uu6 uu1073) hd_X6_no rfl ⟨rfl, rfl⟩ ⟨Nat.le_of_ble_eq_true rfl, Nat.le_of_ble_eq_true rfl⟩ ⟨Nat.le_of_ble_eq_true rfl, Nat.le_of_ble_eq_true rfl⟩ rfl rfl rfl (Nat.le_of_ble_eq_true rfl) rfl dX6_fewest_46 (fun _ => ?_)
        obtain rfl := Option.some.inj hf
        exact s_iret C (fun i => i) hr hlk rfl rfl dX6_fewest_49
    · refine s_if_ne C 38 25 rfl dX6_fewest_22 rfl (fun hc11 => ?_) (fun hc11 => ?_)
      · replace hf := bn_f hc11 hf
        replace hf := bn_i hf
        exact s_lv [1, 2, 3, 4, 0] rfl (hj (j3 : Int32) hf)
      · replace hf := bn_t hc11 hf
        refine s_iload_n C 26 4 rfl dX6_fewest_25 rfl ?_
        refine s_iconst C 27 rfl dX6_fewest_26 ic_0 ?_
        refine s_iconst C 28 rfl dX6_fewest_27 ic_1 ?_
        obtain ⟨r8, q9, hf⟩ := bn_b hf
        refine s_callS0 (host := "") (rest := []) C 31 (c_X6_isIn l D cI adK adV a3 (0 : Int32) (1 : Int32) r8 q9) (gS uu1106 uu1108 uu6 uu1109) hd_X6_isIn rfl ⟨rfl, rfl⟩ ⟨Nat.le_of_ble_eq_true rfl, Nat.le_of_ble_eq_true rfl⟩ ⟨Nat.le_of_ble_eq_true rfl, Nat.le_of_ble_eq_true rfl⟩ rfl (Nat.le_of_ble_eq_true rfl) rfl dX6_fewest_28 ?_
        refine s_if_ne C 38 34 rfl dX6_fewest_31 rfl (fun hc10 => ?_) (fun hc10 => ?_)
        · replace hf := bn_f hc10 hf
          replace hf := bn_i hf
          exact s_lv [1, 2, 3, 4, 0] rfl (hj (j3 : Int32) hf)
        · replace hf := bn_t hc10 hf
          refine s_bipush C 36 rfl dX6_fewest_34 bp_m2 ?_
          refine s_istore (lv1 := [(4, .int (-2 : Int32)), (0, .ref (ad 0)), (1, .int a1), (2, .int a2), (3, .int a3)]) C 38 4 rfl dX6_fewest_36 (Nat.le_of_ble_eq_true rfl) rfl ?_
          replace hf := bn_i hf
          exact s_lv [1, 2, 3, 4, 0] rfl (hj ((-2 : Int32) : Int32) hf)
  · refine s_if_eq C 17 8 rfl dX6_fewest_5 rfl (fun hc6 => ?_) (fun hc6 => ?_)
    · replace hf := bn_t hc6 hf
      refine s_iconst C 18 rfl dX6_fewest_17 ic_m1 ?_
      replace hf := bn_i hf
      exact s_lv [0, 1, 2, 3] rfl (hj ((-1 : Int32) : Int32) hf)
    · replace hf := bn_f hc6 hf
      refine s_iload_n C 9 2 rfl dX6_fewest_8 rfl ?_
      refine s_bipush C 11 rfl dX6_fewest_9 bp_40 ?_
      obtain ⟨r4, q5, hf⟩ := bn_b hf
      refine s_callS0 (host := "") (rest := []) C 14 (c_X6_wrongBy l D cI adK adV a2 (40 : Int32) r4 q5) (gS uu1257 uu1259 uu6 uu1260) hd_X6_wrongBy rfl ⟨rfl, rfl⟩ ⟨Nat.le_of_ble_eq_true rfl, Nat.le_of_ble_eq_true rfl⟩ ⟨Nat.le_of_ble_eq_true rfl, Nat.le_of_ble_eq_true rfl⟩ rfl (Nat.le_of_ble_eq_true rfl) rfl dX6_fewest_11 ?_
      refine s_goto C 18 dX6_fewest_14 rfl ?_
      replace hf := bn_i hf
      exact s_lv [0, 1, 2, 3] rfl (hj (r4 : Int32) hf)


theorem hd_X6_safe : yX6_safe.cls = RX6 ∧ yX6_safe.cls ≠ "java/lang/invoke/MethodHandle" ∧ yX6_safe.cls ≠ "java/lang/invoke/VarHandle" ∧ (parseMethodDescriptor yX6_safe.desc).map (fun d => d.parameters.length) = some 0 := by decide +kernel
set_option maxHeartbeats 4000000 in
set_option maxRecDepth 100000 in
theorem c_X6_safe (l : Launch) (D : va_G) (cI : ClassId) (adK adV : Nat → Nat) (ad : Nat → Nat) (m_left : Int32) (m_bites : Int32) (m_many : Int32) (m_imageLeft : Int32) (m_imageBites : Int32) (m_imageMany : Int32) (m_wasLeft : Int32) (m_wasBites : Int32) (m_wasMany : Int32) (m_hasImage : Int32) (m_letterMany : Int32) (m_rowMany : Int32) (m_place : Int32) (m_seed : Int32) (m_kind : (Nat → Int32)) (m_figure : (Nat → Int32)) (m_imageKind : (Nat → Int32)) (m_imageFigure : (Nat → Int32)) (m_wasKind : (Nat → Int32)) (m_wasFigure : (Nat → Int32)) (m_letters : (Nat → Int32)) (m_row : (Nat → Int32)) (m_refused : (Nat → Int32)) (m_numbers : (Nat → Int32)) (m_counted : (Nat → Int32)) (m_few : (Nat → Int32))  (o : Int32) (hf : f_X6_safe m_left m_many m_kind m_figure = some o) : Ct l D cI adK adV yX6_safe (wy yX6_safe cX6_safe 6 (some .int)) { frames := 5, cells := 0, slots := 0, locals := 117 } 0 0 [.ref (ad 0)] (wM ad cI m_left m_bites m_many m_imageLeft m_imageBites m_imageMany m_wasLeft m_wasBites m_wasMany m_hasImage m_letterMany m_rowMany m_place m_seed m_kind m_figure m_imageKind m_imageFigure m_wasKind m_wasFigure m_letters m_row m_refused m_numbers m_counted m_few) (fun _ => (wM ad cI m_left m_bites m_many m_imageLeft m_imageBites m_imageMany m_wasLeft m_wasBites m_wasMany m_hasImage m_letterMany m_rowMany m_place m_seed m_kind m_figure m_imageKind m_imageFigure m_wasKind m_wasFigure m_letters m_row m_refused m_numbers m_counted m_few)) (some (.int o)) := by
  refine Ct.of (cc := cX6_safe) (nL := 6) (ret := (some .int)) (own := RX6) (by decide) (Nat.le_of_ble_eq_true rfl) rfl ?_
  intro p e s m args below meth c A C hr hlk hnm
  refine s_lv (lv1 := [(0, .ref (ad 0))]) [0] rfl ?_
  unfold f_X6_safe at hf
  refine s_iconst C 1 rfl dX6_safe_0 ic_0 ?_
  refine s_istore_n (lv1 := [(1, .int (0 : Int32)), (0, .ref (ad 0))]) C 2 1 rfl dX6_safe_1 rfl (Nat.le_of_ble_eq_true rfl) rfl ?_
  refine s_iconst C 3 rfl dX6_safe_2 ic_0 ?_
  refine s_istore_n (lv1 := [(2, .int (0 : Int32)), (1, .int (0 : Int32)), (0, .ref (ad 0))]) C 4 2 rfl dX6_safe_3 rfl (Nat.le_of_ble_eq_true rfl) rfl ?_
  refine s_lv (lv1 := [(0, .ref (ad 0)), (1, .int (0 : Int32)), (2, .int (0 : Int32))]) [2, 1, 0] rfl ?_
  refine s_loop (α := Int32 × Int32) (fun n v54 => f_X6_safe_4 m_left m_many m_kind m_figure n v54.1 v54.2) 4 (fun v54 => [(0, .ref (ad 0)), (1, .int v54.1), (2, .int v54.2)]) (fun v54 => (wM ad cI m_left m_bites m_many m_imageLeft m_imageBites m_imageMany m_wasLeft m_wasBites m_wasMany m_hasImage m_letterMany m_rowMany m_place m_seed m_kind m_figure m_imageKind m_imageFigure m_wasKind m_wasFigure m_letters m_row m_refused m_numbers m_counted m_few)) 1000 ((0 : Int32), (0 : Int32)) hf (fun v54 hf => by simp only [f_X6_safe_4] at hf; exact absurd hf (by simp)) (fun n ih55 v54 hf => ?_)
  replace hf := (f_X6_safe_4_s _ _ _ _ _ _ _).symm.trans hf
  refine s_iload_n C 5 2 rfl dX6_safe_4 rfl ?_
  refine s_iconst C 6 rfl dX6_safe_5 ic_4 ?_
  refine s_icmp_ge C 114 9 rfl dX6_safe_6 rfl (fun hc79 => ?_) (fun hc79 => ?_)
  · replace hf := ite_t hc79 hf
    refine s_iload_n C 115 1 rfl dX6_safe_114 rfl ?_
    obtain rfl := Option.some.inj hf
    exact s_iret C (fun i => i) hr hlk rfl rfl dX6_safe_115
  · replace hf := ite_f hc79 hf
    refine s_iconst C 10 rfl dX6_safe_9 ic_0 ?_
    refine s_istore_n (lv1 := [(3, .int (0 : Int32)), (0, .ref (ad 0)), (1, .int v54.1), (2, .int v54.2)]) C 11 3 rfl dX6_safe_10 rfl (Nat.le_of_ble_eq_true rfl) rfl ?_
    refine s_lv (lv1 := [(0, .ref (ad 0)), (1, .int v54.1), (2, .int v54.2), (3, .int (0 : Int32))]) [1, 2, 3, 0] rfl ?_
    refine s_kont (γ := Int32) (o := o) (fun KQ => f_X6_safe_11 v54.2 m_left m_many m_kind m_figure KQ 1000 v54.1 (0 : Int32) = some o) 108 (fun e57 => [(0, .ref (ad 0)), (1, .int e57), (2, .int v54.2)]) (fun e57 => []) (fun e57 => (wM ad cI m_left m_bites m_many m_imageLeft m_imageBites m_imageMany m_wasLeft m_wasBites m_wasMany m_hasImage m_letterMany m_rowMany m_place m_seed m_kind m_figure m_imageKind m_imageFigure m_wasKind m_wasFigure m_letters m_row m_refused m_numbers m_counted m_few)) hf (fun e57 hf => ?_) (fun k56 hk56 hf => ?_)
    · refine s_iinc (lv1 := [(2, .int (v54.2 + (1 : Int32))), (0, .ref (ad 0)), (1, .int e57)]) C 111 2 2 rfl dX6_safe_108 rfl ic_1 (Nat.le_of_ble_eq_true rfl) rfl ?_
      refine s_goto C 4 dX6_safe_111 rfl ?_
      exact s_lv [1, 2, 0] rfl (ih55 ((e57, v54.2 + (1 : Int32)) : Int32 × Int32) hf)
    · skip
      refine s_loop (α := Int32 × Int32) (fun n v58 => f_X6_safe_11 v54.2 m_left m_many m_kind m_figure k56 n v58.1 v58.2) 11 (fun v58 => [(0, .ref (ad 0)), (1, .int v58.1), (2, .int v54.2), (3, .int v58.2)]) (fun v58 => (wM ad cI m_left m_bites m_many m_imageLeft m_imageBites m_imageMany m_wasLeft m_wasBites m_wasMany m_hasImage m_letterMany m_rowMany m_place m_seed m_kind m_figure m_imageKind m_imageFigure m_wasKind m_wasFigure m_letters m_row m_refused m_numbers m_counted m_few)) 1000 (v54.1, (0 : Int32)) hf (fun v58 hf => by simp only [f_X6_safe_11] at hf; exact absurd hf (by simp)) (fun n ih59 v58 hf => ?_)
      replace hf := (f_X6_safe_11_s _ _ _ _ _ _ _ _ _).symm.trans hf
      refine s_iload_n C 12 3 rfl dX6_safe_11 rfl ?_
      refine s_bipush C 14 rfl dX6_safe_12 bp_25 ?_
      refine s_icmp_ge C 108 17 rfl dX6_safe_14 rfl (fun hc78 => ?_) (fun hc78 => ?_)
      · replace hf := ite_t hc78 hf
        exact s_lv [0, 1, 2] rfl (hk56 (v58.1 : Int32) hf)
      · replace hf := ite_f hc78 hf
        refine s_aload_n C 18 0 rfl dX6_safe_17 rfl ?_
        refine s_get (C1 := RX6) (T := TX6) (N := 26) (ci := 5) C 21 0 0 uX6 rfl rfl (Nat.le_of_ble_eq_true rfl) uu986 rfl rfl rfl dX6_safe_18 ?_
        refine s_iload_n C 22 2 rfl dX6_safe_21 rfl ?_
        refine s_iload_n C 23 3 rfl dX6_safe_22 rfl ?_
        obtain ⟨r60, q61, hf⟩ := bn_s hf
        refine s_callS0 (host := "") (rest := []) C 26 (c_X6_canBite l D cI adK adV m_left v54.2 v58.2 r60 q61) (gS uu1126 uu1128 uu6 uu1129) hd_X6_canBite rfl ⟨rfl, rfl⟩ ⟨Nat.le_of_ble_eq_true rfl, Nat.le_of_ble_eq_true rfl⟩ ⟨Nat.le_of_ble_eq_true rfl, Nat.le_of_ble_eq_true rfl⟩ rfl (Nat.le_of_ble_eq_true rfl) rfl dX6_safe_23 ?_
        refine s_istore (lv1 := [(4, .int r60), (0, .ref (ad 0)), (1, .int v58.1), (2, .int v54.2), (3, .int v58.2)]) C 28 4 rfl dX6_safe_26 (Nat.le_of_ble_eq_true rfl) rfl ?_
        refine s_iconst C 29 rfl dX6_safe_28 ic_0 ?_
        refine s_istore (lv1 := [(5, .int (0 : Int32)), (4, .int r60), (0, .ref (ad 0)), (1, .int v58.1), (2, .int v54.2), (3, .int v58.2)]) C 31 5 rfl dX6_safe_29 (Nat.le_of_ble_eq_true rfl) rfl ?_
        refine s_lv (lv1 := [(0, .ref (ad 0)), (1, .int v58.1), (2, .int v54.2), (3, .int v58.2), (4, .int r60), (5, .int (0 : Int32))]) [2, 3, 4, 5, 1, 0] rfl ?_
        refine s_kont (γ := Int32) (o := o) (fun KQ => f_X6_safe_31 v54.2 v58.2 m_left m_many m_kind m_figure KQ 1000 r60 (0 : Int32) = some o) 89 (fun e63 => [(0, .ref (ad 0)), (1, .int v58.1), (2, .int v54.2), (3, .int v58.2), (4, .int e63)]) (fun e63 => []) (fun e63 => (wM ad cI m_left m_bites m_many m_imageLeft m_imageBites m_imageMany m_wasLeft m_wasBites m_wasMany m_hasImage m_letterMany m_rowMany m_place m_seed m_kind m_figure m_imageKind m_imageFigure m_wasKind m_wasFigure m_letters m_row m_refused m_numbers m_counted m_few)) hf (fun e63 hf => ?_) (fun k62 hk62 hf => ?_)
        · refine s_iload_n C 90 1 rfl dX6_safe_89 rfl ?_
          refine s_iload C 92 4 rfl dX6_safe_90 rfl ?_
          refine s_jn (α := Int32) 100 (fun j64 => [(0, .ref (ad 0)), (2, .int v54.2), (3, .int v58.2)]) (fun j64 => [.int j64, .int v58.1]) (fun j64 => (wM ad cI m_left m_bites m_many m_imageLeft m_imageBites m_imageMany m_wasLeft m_wasBites m_wasMany m_hasImage m_letterMany m_rowMany m_place m_seed m_kind m_figure m_imageKind m_imageFigure m_wasKind m_wasFigure m_letters m_row m_refused m_numbers m_counted m_few)) hf (fun j64 hf => ?_) (fun hj hf => ?_)
          · refine s_iadd C 101 rfl dX6_safe_100 ?_
            refine s_istore_n (lv1 := [(1, .int (v58.1 + j64)), (0, .ref (ad 0)), (2, .int v54.2), (3, .int v58.2)]) C 102 1 rfl dX6_safe_101 rfl (Nat.le_of_ble_eq_true rfl) rfl ?_
            refine s_iinc (lv1 := [(3, .int (v58.2 + (1 : Int32))), (1, .int (v58.1 + j64)), (0, .ref (ad 0)), (2, .int v54.2)]) C 105 3 3 rfl dX6_safe_102 rfl ic_1 (Nat.le_of_ble_eq_true rfl) rfl ?_
            refine s_goto C 11 dX6_safe_105 rfl ?_
            exact s_lv [2, 1, 3, 0] rfl (ih59 ((v58.1 + j64, v58.2 + (1 : Int32)) : Int32 × Int32) hf)
          · refine s_if_eq C 99 95 rfl dX6_safe_92 rfl (fun hc65 => ?_) (fun hc65 => ?_)
            · replace hf := jn_t hc65 hf
              refine s_iconst C 100 rfl dX6_safe_99 ic_0 ?_
              replace hf := jn_i hf
              exact s_lv [0, 2, 3] rfl (hj ((0 : Int32) : Int32) hf)
            · replace hf := jn_f hc65 hf
              refine s_iconst C 96 rfl dX6_safe_95 ic_1 ?_
              refine s_goto C 100 dX6_safe_96 rfl ?_
              replace hf := jn_i hf
              exact s_lv [0, 2, 3] rfl (hj ((1 : Int32) : Int32) hf)
        · skip
          refine s_loop (α := Int32 × Int32) (fun n v66 => f_X6_safe_31 v54.2 v58.2 m_left m_many m_kind m_figure k62 n v66.1 v66.2) 31 (fun v66 => [(0, .ref (ad 0)), (1, .int v58.1), (2, .int v54.2), (3, .int v58.2), (4, .int v66.1), (5, .int v66.2)]) (fun v66 => (wM ad cI m_left m_bites m_many m_imageLeft m_imageBites m_imageMany m_wasLeft m_wasBites m_wasMany m_hasImage m_letterMany m_rowMany m_place m_seed m_kind m_figure m_imageKind m_imageFigure m_wasKind m_wasFigure m_letters m_row m_refused m_numbers m_counted m_few)) 1000 (r60, (0 : Int32)) hf (fun v66 hf => by simp only [f_X6_safe_31] at hf; exact absurd hf (by simp)) (fun n ih67 v66 hf => ?_)
          replace hf := (f_X6_safe_31_s _ _ _ _ _ _ _ _ _ _).symm.trans hf
          refine s_iload C 33 5 rfl dX6_safe_31 rfl ?_
          refine s_aload_n C 34 0 rfl dX6_safe_33 rfl ?_
          refine s_get (C1 := RX6) (T := TX6) (N := 26) (ci := 5) C 37 0 2 uX6 rfl rfl (Nat.le_of_ble_eq_true rfl) uu990 rfl rfl rfl dX6_safe_34 ?_
          refine s_icmp_ge C 89 40 rfl dX6_safe_37 rfl (fun hc77 => ?_) (fun hc77 => ?_)
          · replace hf := ite_t hc77 hf
            exact s_lv [0, 1, 2, 3, 4] rfl (hk62 (v66.1 : Int32) hf)
          · replace hf := ite_f hc77 hf
            refine s_iload C 42 4 rfl dX6_safe_40 rfl ?_
            refine s_if_eq C 89 45 rfl dX6_safe_42 rfl (fun hc76 => ?_) (fun hc76 => ?_)
            · replace hf := ite_t hc76 hf
              exact s_lv [0, 1, 2, 3, 4] rfl (hk62 (v66.1 : Int32) hf)
            · replace hf := ite_f hc76 hf
              refine s_aload_n C 46 0 rfl dX6_safe_45 rfl ?_
              refine s_aload_n C 47 0 rfl dX6_safe_46 rfl ?_
              refine s_get (C1 := RX6) (T := TX6) (N := 26) (ci := 5) C 50 0 0 uX6 rfl rfl (Nat.le_of_ble_eq_true rfl) uu986 rfl rfl rfl dX6_safe_47 ?_
              refine s_iload_n C 51 2 rfl dX6_safe_50 rfl ?_
              refine s_iload_n C 52 3 rfl dX6_safe_51 rfl ?_
              obtain ⟨r68, q69, hf⟩ := bn_s hf
              refine s_callS0 (host := "") (rest := [.int m_left, .ref (ad 0)]) C 55 (c_X6_bite l D cI adK adV v54.2 v58.2 r68 q69) (gS uu1131 uu1133 uu6 uu1134) hd_X6_bite rfl ⟨rfl, rfl⟩ ⟨Nat.le_of_ble_eq_true rfl, Nat.le_of_ble_eq_true rfl⟩ ⟨Nat.le_of_ble_eq_true rfl, Nat.le_of_ble_eq_true rfl⟩ rfl (Nat.le_of_ble_eq_true rfl) rfl dX6_safe_52 ?_
              refine s_iconst C 56 rfl dX6_safe_55 ic_m1 ?_
              refine s_ixor C 57 rfl dX6_safe_56 ?_
              refine s_iand C 58 rfl dX6_safe_57 ?_
              refine s_iload C 60 5 rfl dX6_safe_58 rfl ?_
              obtain ⟨r70, q71, hf⟩ := bn_s hf
              refine s_callW (T := TX6) (N := 26) (ci := 5) (q0 := 0) (rest := []) C 63 (c_X6_shareOf l D cI adK adV ad m_left m_bites m_many m_imageLeft m_imageBites m_imageMany m_wasLeft m_wasBites m_wasMany m_hasImage m_letterMany m_rowMany m_place m_seed m_kind m_figure m_imageKind m_imageFigure m_wasKind m_wasFigure m_letters m_row m_refused m_numbers m_counted m_few (m_left &&& (r68 ^^^ (-1 : Int32))) v66.2 r70 q71) (gV uu1198 uu1200 uu1582 uu6 uu1201) hd_X6_shareOf rfl ⟨rfl, rfl⟩ ⟨Nat.le_of_ble_eq_true rfl, Nat.le_of_ble_eq_true rfl⟩ ⟨Nat.le_of_ble_eq_true rfl, Nat.le_of_ble_eq_true rfl⟩ rfl rfl rfl (Nat.le_of_ble_eq_true rfl) rfl dX6_safe_60 (fun _ => ?_)
              refine s_aload_n C 64 0 rfl dX6_safe_63 rfl ?_
              refine s_aload_n C 65 0 rfl dX6_safe_64 rfl ?_
              refine s_get (C1 := RX6) (T := TX6) (N := 26) (ci := 5) C 68 0 0 uX6 rfl rfl (Nat.le_of_ble_eq_true rfl) uu986 rfl rfl rfl dX6_safe_65 ?_
              refine s_iload C 70 5 rfl dX6_safe_68 rfl ?_
              obtain ⟨r72, q73, hf⟩ := bn_s hf
              refine s_callW (T := TX6) (N := 26) (ci := 5) (q0 := 0) (rest := [.int r70]) C 73 (c_X6_shareOf l D cI adK adV ad m_left m_bites m_many m_imageLeft m_imageBites m_imageMany m_wasLeft m_wasBites m_wasMany m_hasImage m_letterMany m_rowMany m_place m_seed m_kind m_figure m_imageKind m_imageFigure m_wasKind m_wasFigure m_letters m_row m_refused m_numbers m_counted m_few m_left v66.2 r72 q73) (gV uu1198 uu1200 uu1582 uu6 uu1201) hd_X6_shareOf rfl ⟨rfl, rfl⟩ ⟨Nat.le_of_ble_eq_true rfl, Nat.le_of_ble_eq_true rfl⟩ ⟨Nat.le_of_ble_eq_true rfl, Nat.le_of_ble_eq_true rfl⟩ rfl rfl rfl (Nat.le_of_ble_eq_true rfl) rfl dX6_safe_70 (fun _ => ?_)
              refine s_jn (α := Int32) 81 (fun j74 => [(0, .ref (ad 0)), (1, .int v58.1), (2, .int v54.2), (3, .int v58.2), (5, .int v66.2)]) (fun j74 => [.int j74]) (fun j74 => (wM ad cI m_left m_bites m_many m_imageLeft m_imageBites m_imageMany m_wasLeft m_wasBites m_wasMany m_hasImage m_letterMany m_rowMany m_place m_seed m_kind m_figure m_imageKind m_imageFigure m_wasKind m_wasFigure m_letters m_row m_refused m_numbers m_counted m_few)) hf (fun j74 hf => ?_) (fun hj hf => ?_)
              · refine s_istore (lv1 := [(4, .int j74), (0, .ref (ad 0)), (1, .int v58.1), (2, .int v54.2), (3, .int v58.2), (5, .int v66.2)]) C 83 4 rfl dX6_safe_81 (Nat.le_of_ble_eq_true rfl) rfl ?_
                refine s_iinc (lv1 := [(5, .int (v66.2 + (1 : Int32))), (4, .int j74), (0, .ref (ad 0)), (1, .int v58.1), (2, .int v54.2), (3, .int v58.2)]) C 86 5 5 rfl dX6_safe_83 rfl ic_1 (Nat.le_of_ble_eq_true rfl) rfl ?_
                refine s_goto C 31 dX6_safe_86 rfl ?_
                exact s_lv [2, 3, 4, 5, 1, 0] rfl (ih67 ((j74, v66.2 + (1 : Int32)) : Int32 × Int32) hf)
              · refine s_icmp_ne C 80 76 rfl dX6_safe_73 rfl (fun hc75 => ?_) (fun hc75 => ?_)
                · replace hf := jn_f hc75 hf
                  refine s_iconst C 81 rfl dX6_safe_80 ic_0 ?_
                  replace hf := jn_i hf
                  exact s_lv [0, 1, 2, 3, 5] rfl (hj ((0 : Int32) : Int32) hf)
                · replace hf := jn_t hc75 hf
                  refine s_iconst C 77 rfl dX6_safe_76 ic_1 ?_
                  refine s_goto C 81 dX6_safe_77 rfl ?_
                  replace hf := jn_i hf
                  exact s_lv [0, 1, 2, 3, 5] rfl (hj ((1 : Int32) : Int32) hf)


theorem hd_X6_can : yX6_can.cls = RX6 ∧ yX6_can.cls ≠ "java/lang/invoke/MethodHandle" ∧ yX6_can.cls ≠ "java/lang/invoke/VarHandle" ∧ (parseMethodDescriptor yX6_can.desc).map (fun d => d.parameters.length) = some 1 := by decide +kernel
set_option maxHeartbeats 4000000 in
set_option maxRecDepth 100000 in
theorem c_X6_can (l : Launch) (D : va_G) (cI : ClassId) (adK adV : Nat → Nat) (ad : Nat → Nat) (m_left : Int32) (m_bites : Int32) (m_many : Int32) (m_imageLeft : Int32) (m_imageBites : Int32) (m_imageMany : Int32) (m_wasLeft : Int32) (m_wasBites : Int32) (m_wasMany : Int32) (m_hasImage : Int32) (m_letterMany : Int32) (m_rowMany : Int32) (m_place : Int32) (m_seed : Int32) (m_kind : (Nat → Int32)) (m_figure : (Nat → Int32)) (m_imageKind : (Nat → Int32)) (m_imageFigure : (Nat → Int32)) (m_wasKind : (Nat → Int32)) (m_wasFigure : (Nat → Int32)) (m_letters : (Nat → Int32)) (m_row : (Nat → Int32)) (m_refused : (Nat → Int32)) (m_numbers : (Nat → Int32)) (m_counted : (Nat → Int32)) (m_few : (Nat → Int32)) (a1 : Int32) (o : Int32 × (Nat → Int32)) (hf : f_X6_can m_left m_refused a1 = some o) : Ct l D cI adK adV yX6_can (wy yX6_can cX6_can 5 (some .int)) { frames := 2, cells := 0, slots := 0, locals := 46 } 0 0 [.ref (ad 0), .int a1] (wM ad cI m_left m_bites m_many m_imageLeft m_imageBites m_imageMany m_wasLeft m_wasBites m_wasMany m_hasImage m_letterMany m_rowMany m_place m_seed m_kind m_figure m_imageKind m_imageFigure m_wasKind m_wasFigure m_letters m_row m_refused m_numbers m_counted m_few) (fun _ => (wM ad cI m_left m_bites m_many m_imageLeft m_imageBites m_imageMany m_wasLeft m_wasBites m_wasMany m_hasImage m_letterMany m_rowMany m_place m_seed m_kind m_figure m_imageKind m_imageFigure m_wasKind m_wasFigure m_letters m_row o.2 m_numbers m_counted m_few)) (some (.int o.1)) := by
  refine Ct.of (cc := cX6_can) (nL := 5) (ret := (some .int)) (own := RX6) (by decide) (Nat.le_of_ble_eq_true rfl) rfl ?_
  intro p e s m args below meth c A C hr hlk hnm
  refine s_lv (lv1 := [(0, .ref (ad 0)), (1, .int a1)]) [0, 1] rfl ?_
  unfold f_X6_can at hf
  refine s_iload_n C 1 1 rfl dX6_can_0 rfl ?_
  refine s_iconst C 2 rfl dX6_can_1 ic_m1 ?_
  refine s_iconst C 3 rfl dX6_can_2 ic_3 ?_
  obtain ⟨r1, q2, hf⟩ := bn_s hf
  refine s_callS0 (host := "") (rest := []) C 6 (c_X6_isIn l D cI adK adV a1 (-1 : Int32) (3 : Int32) r1 q2) (gS uu1106 uu1108 uu6 uu1109) hd_X6_isIn rfl ⟨rfl, rfl⟩ ⟨Nat.le_of_ble_eq_true rfl, Nat.le_of_ble_eq_true rfl⟩ ⟨Nat.le_of_ble_eq_true rfl, Nat.le_of_ble_eq_true rfl⟩ rfl (Nat.le_of_ble_eq_true rfl) rfl dX6_can_3 ?_
  refine s_if_ne C 16 9 rfl dX6_can_6 rfl (fun hc47 => ?_) (fun hc47 => ?_)
  · replace hf := ite_f hc47 hf
    refine s_iconst C 17 rfl dX6_can_16 ic_0 ?_
    refine s_istore_n (lv1 := [(2, .int (0 : Int32)), (0, .ref (ad 0)), (1, .int a1)]) C 18 2 rfl dX6_can_17 rfl (Nat.le_of_ble_eq_true rfl) rfl ?_
    refine s_iconst C 19 rfl dX6_can_18 ic_0 ?_
    refine s_istore_n (lv1 := [(3, .int (0 : Int32)), (2, .int (0 : Int32)), (0, .ref (ad 0)), (1, .int a1)]) C 20 3 rfl dX6_can_19 rfl (Nat.le_of_ble_eq_true rfl) rfl ?_
    refine s_lv (lv1 := [(0, .ref (ad 0)), (1, .int a1), (2, .int (0 : Int32)), (3, .int (0 : Int32))]) [2, 3, 1, 0] rfl ?_
    refine s_loop (α := Int32 × Int32) (fun n v28 => f_X6_can_20 a1 m_left m_refused n v28.1 v28.2) 20 (fun v28 => [(0, .ref (ad 0)), (1, .int a1), (2, .int v28.1), (3, .int v28.2)]) (fun v28 => (wM ad cI m_left m_bites m_many m_imageLeft m_imageBites m_imageMany m_wasLeft m_wasBites m_wasMany m_hasImage m_letterMany m_rowMany m_place m_seed m_kind m_figure m_imageKind m_imageFigure m_wasKind m_wasFigure m_letters m_row m_refused m_numbers m_counted m_few)) 1000 ((0 : Int32), (0 : Int32)) hf (fun v28 hf => by simp only [f_X6_can_20] at hf; exact absurd hf (by simp)) (fun n ih29 v28 hf => ?_)
    replace hf := (f_X6_can_20_s _ _ _ _ _ _).symm.trans hf
    refine s_iload_n C 21 3 rfl dX6_can_20 rfl ?_
    refine s_iconst C 22 rfl dX6_can_21 ic_4 ?_
    refine s_icmp_ge C 77 25 rfl dX6_can_22 rfl (fun hc44 => ?_) (fun hc44 => ?_)
    · replace hf := ite_t hc44 hf
      refine s_iload_n C 78 2 rfl dX6_can_77 rfl ?_
      obtain rfl := Option.some.inj hf
      exact s_iret C (fun i => i) hr hlk rfl rfl dX6_can_78
    · replace hf := ite_f hc44 hf
      refine s_iconst C 26 rfl dX6_can_25 ic_0 ?_
      refine s_istore (lv1 := [(4, .int (0 : Int32)), (0, .ref (ad 0)), (1, .int a1), (2, .int v28.1), (3, .int v28.2)]) C 28 4 rfl dX6_can_26 (Nat.le_of_ble_eq_true rfl) rfl ?_
      refine s_lv (lv1 := [(0, .ref (ad 0)), (1, .int a1), (2, .int v28.1), (3, .int v28.2), (4, .int (0 : Int32))]) [1, 2, 3, 4, 0] rfl ?_
      refine s_kont (γ := Int32) (o := o) (fun KQ => f_X6_can_28 a1 v28.2 m_left KQ 1000 v28.1 (0 : Int32) = some o) 71 (fun e31 => [(0, .ref (ad 0)), (1, .int a1), (2, .int e31), (3, .int v28.2)]) (fun e31 => []) (fun e31 => (wM ad cI m_left m_bites m_many m_imageLeft m_imageBites m_imageMany m_wasLeft m_wasBites m_wasMany m_hasImage m_letterMany m_rowMany m_place m_seed m_kind m_figure m_imageKind m_imageFigure m_wasKind m_wasFigure m_letters m_row m_refused m_numbers m_counted m_few)) hf (fun e31 hf => ?_) (fun k30 hk30 hf => ?_)
      · refine s_iinc (lv1 := [(3, .int (v28.2 + (1 : Int32))), (0, .ref (ad 0)), (1, .int a1), (2, .int e31)]) C 74 3 3 rfl dX6_can_71 rfl ic_1 (Nat.le_of_ble_eq_true rfl) rfl ?_
        refine s_goto C 20 dX6_can_74 rfl ?_
        exact s_lv [1, 2, 3, 0] rfl (ih29 ((e31, v28.2 + (1 : Int32)) : Int32 × Int32) hf)
      · skip
        refine s_loop (α := Int32 × Int32) (fun n v32 => f_X6_can_28 a1 v28.2 m_left k30 n v32.1 v32.2) 28 (fun v32 => [(0, .ref (ad 0)), (1, .int a1), (2, .int v32.1), (3, .int v28.2), (4, .int v32.2)]) (fun v32 => (wM ad cI m_left m_bites m_many m_imageLeft m_imageBites m_imageMany m_wasLeft m_wasBites m_wasMany m_hasImage m_letterMany m_rowMany m_place m_seed m_kind m_figure m_imageKind m_imageFigure m_wasKind m_wasFigure m_letters m_row m_refused m_numbers m_counted m_few)) 1000 (v28.1, (0 : Int32)) hf (fun v32 hf => by simp only [f_X6_can_28] at hf; exact absurd hf (by simp)) (fun n ih33 v32 hf => ?_)
        replace hf := (f_X6_can_28_s _ _ _ _ _ _ _).symm.trans hf
        refine s_iload C 30 4 rfl dX6_can_28 rfl ?_
        refine s_bipush C 32 rfl dX6_can_30 bp_25 ?_
        refine s_icmp_ge C 71 35 rfl dX6_can_32 rfl (fun hc43 => ?_) (fun hc43 => ?_)
        · replace hf := ite_t hc43 hf
          exact s_lv [0, 1, 2, 3] rfl (hk30 (v32.1 : Int32) hf)
        · replace hf := ite_f hc43 hf
          refine s_iload_n C 36 2 rfl dX6_can_35 rfl ?_
          refine s_iload_n C 37 1 rfl dX6_can_36 rfl ?_
          refine s_bn (α := Int32) 63 (fun j34 => [(0, .ref (ad 0)), (1, .int a1), (3, .int v28.2), (4, .int v32.2)]) (fun j34 => [.int j34, .int v32.1]) (fun j34 => (wM ad cI m_left m_bites m_many m_imageLeft m_imageBites m_imageMany m_wasLeft m_wasBites m_wasMany m_hasImage m_letterMany m_rowMany m_place m_seed m_kind m_figure m_imageKind m_imageFigure m_wasKind m_wasFigure m_letters m_row m_refused m_numbers m_counted m_few)) hf (fun j34 hf => ?_) (fun hj hf => ?_)
          · refine s_iadd C 64 rfl dX6_can_63 ?_
            refine s_istore_n (lv1 := [(2, .int (v32.1 + j34)), (0, .ref (ad 0)), (1, .int a1), (3, .int v28.2), (4, .int v32.2)]) C 65 2 rfl dX6_can_64 rfl (Nat.le_of_ble_eq_true rfl) rfl ?_
            refine s_iinc (lv1 := [(4, .int (v32.2 + (1 : Int32))), (2, .int (v32.1 + j34)), (0, .ref (ad 0)), (1, .int a1), (3, .int v28.2)]) C 68 4 4 rfl dX6_can_65 rfl ic_1 (Nat.le_of_ble_eq_true rfl) rfl ?_
            refine s_goto C 28 dX6_can_68 rfl ?_
            exact s_lv [2, 3, 1, 4, 0] rfl (ih33 ((v32.1 + j34, v32.2 + (1 : Int32)) : Int32 × Int32) hf)
          · refine s_if_lt C 45 40 rfl dX6_can_37 rfl (fun hc42 => ?_) (fun hc42 => ?_)
            · replace hf := bn_t hc42 hf
              refine s_aload_n C 46 0 rfl dX6_can_45 rfl ?_
              refine s_get (C1 := RX6) (T := TX6) (N := 26) (ci := 5) C 49 0 0 uX6 rfl rfl (Nat.le_of_ble_eq_true rfl) uu986 rfl rfl rfl dX6_can_46 ?_
              refine s_iload_n C 50 3 rfl dX6_can_49 rfl ?_
              refine s_iload C 52 4 rfl dX6_can_50 rfl ?_
              obtain ⟨r35, q36, hf⟩ := bn_b hf
              refine s_callS0 (host := "") (rest := [.int v32.1]) C 55 (c_X6_canBite l D cI adK adV m_left v28.2 v32.2 r35 q36) (gS uu1126 uu1128 uu6 uu1129) hd_X6_canBite rfl ⟨rfl, rfl⟩ ⟨Nat.le_of_ble_eq_true rfl, Nat.le_of_ble_eq_true rfl⟩ ⟨Nat.le_of_ble_eq_true rfl, Nat.le_of_ble_eq_true rfl⟩ rfl (Nat.le_of_ble_eq_true rfl) rfl dX6_can_52 ?_
              refine s_if_eq C 62 58 rfl dX6_can_55 rfl (fun hc37 => ?_) (fun hc37 => ?_)
              · replace hf := bn_t hc37 hf
                refine s_iconst C 63 rfl dX6_can_62 ic_0 ?_
                replace hf := bn_i hf
                exact s_lv [0, 1, 3, 4] rfl (hj ((0 : Int32) : Int32) hf)
              · replace hf := bn_f hc37 hf
                refine s_iconst C 59 rfl dX6_can_58 ic_1 ?_
                refine s_goto C 63 dX6_can_59 rfl ?_
                replace hf := bn_i hf
                exact s_lv [0, 1, 3, 4] rfl (hj ((1 : Int32) : Int32) hf)
            · replace hf := bn_f hc42 hf
              refine s_iload_n C 41 3 rfl dX6_can_40 rfl ?_
              refine s_iload_n C 42 1 rfl dX6_can_41 rfl ?_
              refine s_icmp_ne C 62 45 rfl dX6_can_42 rfl (fun hc41 => ?_) (fun hc41 => ?_)
              · replace hf := bn_f hc41 hf
                refine s_iconst C 63 rfl dX6_can_62 ic_0 ?_
                replace hf := bn_i hf
                exact s_lv [0, 1, 3, 4] rfl (hj ((0 : Int32) : Int32) hf)
              · replace hf := bn_t hc41 hf
                refine s_aload_n C 46 0 rfl dX6_can_45 rfl ?_
                refine s_get (C1 := RX6) (T := TX6) (N := 26) (ci := 5) C 49 0 0 uX6 rfl rfl (Nat.le_of_ble_eq_true rfl) uu986 rfl rfl rfl dX6_can_46 ?_
                refine s_iload_n C 50 3 rfl dX6_can_49 rfl ?_
                refine s_iload C 52 4 rfl dX6_can_50 rfl ?_
                obtain ⟨r38, q39, hf⟩ := bn_b hf
                refine s_callS0 (host := "") (rest := [.int v32.1]) C 55 (c_X6_canBite l D cI adK adV m_left v28.2 v32.2 r38 q39) (gS uu1126 uu1128 uu6 uu1129) hd_X6_canBite rfl ⟨rfl, rfl⟩ ⟨Nat.le_of_ble_eq_true rfl, Nat.le_of_ble_eq_true rfl⟩ ⟨Nat.le_of_ble_eq_true rfl, Nat.le_of_ble_eq_true rfl⟩ rfl (Nat.le_of_ble_eq_true rfl) rfl dX6_can_52 ?_
                refine s_if_eq C 62 58 rfl dX6_can_55 rfl (fun hc40 => ?_) (fun hc40 => ?_)
                · replace hf := bn_t hc40 hf
                  refine s_iconst C 63 rfl dX6_can_62 ic_0 ?_
                  replace hf := bn_i hf
                  exact s_lv [0, 1, 3, 4] rfl (hj ((0 : Int32) : Int32) hf)
                · replace hf := bn_f hc40 hf
                  refine s_iconst C 59 rfl dX6_can_58 ic_1 ?_
                  refine s_goto C 63 dX6_can_59 rfl ?_
                  replace hf := bn_i hf
                  exact s_lv [0, 1, 3, 4] rfl (hj ((1 : Int32) : Int32) hf)
  · replace hf := ite_t hc47 hf
    refine s_aload_n C 10 0 rfl dX6_can_9 rfl ?_
    refine s_bipush C 12 rfl dX6_can_10 bp_m2 ?_
    obtain ⟨r45, q46, hf⟩ := bn_s hf
    refine s_callW (T := TX6) (N := 26) (ci := 5) (q0 := 0) (rest := []) C 15 (c_X6_no l D cI adK adV ad m_left m_bites m_many m_imageLeft m_imageBites m_imageMany m_wasLeft m_wasBites m_wasMany m_hasImage m_letterMany m_rowMany m_place m_seed m_kind m_figure m_imageKind m_imageFigure m_wasKind m_wasFigure m_letters m_row m_refused m_numbers m_counted m_few (-2 : Int32) r45 q46) (gV uu1070 uu1072 uu1571 uu6 uu1073) hd_X6_no rfl ⟨rfl, rfl⟩ ⟨Nat.le_of_ble_eq_true rfl, Nat.le_of_ble_eq_true rfl⟩ ⟨Nat.le_of_ble_eq_true rfl, Nat.le_of_ble_eq_true rfl⟩ rfl rfl rfl (Nat.le_of_ble_eq_true rfl) rfl dX6_can_12 (fun _ => ?_)
    obtain rfl := Option.some.inj hf
    exact s_iret C (fun i => i) hr hlk rfl rfl dX6_can_15


theorem hd_X6_ways : yX6_ways.cls = RX6 ∧ yX6_ways.cls ≠ "java/lang/invoke/MethodHandle" ∧ yX6_ways.cls ≠ "java/lang/invoke/VarHandle" ∧ (parseMethodDescriptor yX6_ways.desc).map (fun d => d.parameters.length) = some 1 := by decide +kernel
set_option maxHeartbeats 4000000 in
set_option maxRecDepth 100000 in
theorem c_X6_ways (l : Launch) (D : va_G) (cI : ClassId) (adK adV : Nat → Nat) (ad : Nat → Nat) (m_left : Int32) (m_bites : Int32) (m_many : Int32) (m_imageLeft : Int32) (m_imageBites : Int32) (m_imageMany : Int32) (m_wasLeft : Int32) (m_wasBites : Int32) (m_wasMany : Int32) (m_hasImage : Int32) (m_letterMany : Int32) (m_rowMany : Int32) (m_place : Int32) (m_seed : Int32) (m_kind : (Nat → Int32)) (m_figure : (Nat → Int32)) (m_imageKind : (Nat → Int32)) (m_imageFigure : (Nat → Int32)) (m_wasKind : (Nat → Int32)) (m_wasFigure : (Nat → Int32)) (m_letters : (Nat → Int32)) (m_row : (Nat → Int32)) (m_refused : (Nat → Int32)) (m_numbers : (Nat → Int32)) (m_counted : (Nat → Int32)) (m_few : (Nat → Int32)) (a1 : Int32) (o : Int32 × (Nat → Int32) × (Nat → Int32) × (Nat → Int32)) (hf : f_X6_ways m_left m_refused m_counted m_few a1 = some o) : Ct l D cI adK adV yX6_ways (wy yX6_ways cX6_ways 8 (some .int)) { frames := 2, cells := 0, slots := 0, locals := 46 } 0 0 [.ref (ad 0), .int a1] (wM ad cI m_left m_bites m_many m_imageLeft m_imageBites m_imageMany m_wasLeft m_wasBites m_wasMany m_hasImage m_letterMany m_rowMany m_place m_seed m_kind m_figure m_imageKind m_imageFigure m_wasKind m_wasFigure m_letters m_row m_refused m_numbers m_counted m_few) (fun _ => (wM ad cI m_left m_bites m_many m_imageLeft m_imageBites m_imageMany m_wasLeft m_wasBites m_wasMany m_hasImage m_letterMany m_rowMany m_place m_seed m_kind m_figure m_imageKind m_imageFigure m_wasKind m_wasFigure m_letters m_row o.2.1 m_numbers o.2.2.1 o.2.2.2)) (some (.int o.1)) := by
  refine Ct.of (cc := cX6_ways) (nL := 8) (ret := (some .int)) (own := RX6) (by decide) (Nat.le_of_ble_eq_true rfl) rfl ?_
  intro p e s m args below meth c A C hr hlk hnm
  refine s_lv (lv1 := [(0, .ref (ad 0)), (1, .int a1)]) [0, 1] rfl ?_
  unfold f_X6_ways at hf
  refine s_iload_n C 1 1 rfl dX6_ways_0 rfl ?_
  refine s_iconst C 2 rfl dX6_ways_1 ic_0 ?_
  refine s_iconst C 3 rfl dX6_ways_2 ic_1 ?_
  obtain ⟨r1, q2, hf⟩ := bn_s hf
  refine s_callS0 (host := "") (rest := []) C 6 (c_X6_isIn l D cI adK adV a1 (0 : Int32) (1 : Int32) r1 q2) (gS uu1106 uu1108 uu6 uu1109) hd_X6_isIn rfl ⟨rfl, rfl⟩ ⟨Nat.le_of_ble_eq_true rfl, Nat.le_of_ble_eq_true rfl⟩ ⟨Nat.le_of_ble_eq_true rfl, Nat.le_of_ble_eq_true rfl⟩ rfl (Nat.le_of_ble_eq_true rfl) rfl dX6_ways_3 ?_
  refine s_if_ne C 16 9 rfl dX6_ways_6 rfl (fun hc180 => ?_) (fun hc180 => ?_)
  · replace hf := ite_f hc180 hf
    refine s_ldc C 18 rfl dX6_ways_16 uu984 ?_
    refine s_aload_n C 19 0 rfl dX6_ways_18 rfl ?_
    refine s_get (C1 := RX6) (T := TX6) (N := 26) (ci := 5) C 22 0 0 uX6 rfl rfl (Nat.le_of_ble_eq_true rfl) uu986 rfl rfl rfl dX6_ways_19 ?_
    refine s_iconst C 23 rfl dX6_ways_22 ic_m1 ?_
    refine s_ixor C 24 rfl dX6_ways_23 ?_
    refine s_iand C 25 rfl dX6_ways_24 ?_
    refine s_istore_n (lv1 := [(2, .int ((33554431 : Int32) &&& (m_left ^^^ (-1 : Int32)))), (0, .ref (ad 0)), (1, .int a1)]) C 26 2 rfl dX6_ways_25 rfl (Nat.le_of_ble_eq_true rfl) rfl ?_
    refine s_iconst C 27 rfl dX6_ways_26 ic_0 ?_
    refine s_istore_n (lv1 := [(3, .int (0 : Int32)), (2, .int ((33554431 : Int32) &&& (m_left ^^^ (-1 : Int32)))), (0, .ref (ad 0)), (1, .int a1)]) C 28 3 rfl dX6_ways_27 rfl (Nat.le_of_ble_eq_true rfl) rfl ?_
    refine s_lv (lv1 := [(0, .ref (ad 0)), (1, .int a1), (2, .int ((33554431 : Int32) &&& (m_left ^^^ (-1 : Int32)))), (3, .int (0 : Int32))]) [2, 3, 1, 0] rfl ?_
    refine s_kont (γ := (Nat → Int32) × (Nat → Int32)) (o := o) (fun KQ => f_X6_ways_28 KQ 4000 (0 : Int32) m_counted m_few = some o) 56 (fun e7 => [(0, .ref (ad 0)), (1, .int a1), (2, .int ((33554431 : Int32) &&& (m_left ^^^ (-1 : Int32))))]) (fun e7 => []) (fun e7 => (wM ad cI m_left m_bites m_many m_imageLeft m_imageBites m_imageMany m_wasLeft m_wasBites m_wasMany m_hasImage m_letterMany m_rowMany m_place m_seed m_kind m_figure m_imageKind m_imageFigure m_wasKind m_wasFigure m_letters m_row m_refused m_numbers e7.1 e7.2)) hf (fun e7 hf => ?_) (fun k6 hk6 hf => ?_)
    · refine s_aload_n C 57 0 rfl dX6_ways_56 rfl ?_
      refine s_get (C1 := RX6) (T := TX6) (N := 26) (ci := 5) C 60 0 23 uX6 rfl rfl (Nat.le_of_ble_eq_true rfl) uu1032 rfl rfl rfl dX6_ways_57 ?_
      refine s_iconst C 61 rfl dX6_ways_60 ic_0 ?_
      refine s_iconst C 62 rfl dX6_ways_61 ic_1 ?_
      obtain ⟨h8, hf⟩ := ck_in hf
      refine s_iast (ws1 := (wM ad cI m_left m_bites m_many m_imageLeft m_imageBites m_imageMany m_wasLeft m_wasBites m_wasMany m_hasImage m_letterMany m_rowMany m_place m_seed m_kind m_figure m_imageKind m_imageFigure m_wasKind m_wasFigure m_letters m_row m_refused m_numbers (upd e7.1 (0 : Int32).toNatClampNeg (1 : Int32)) e7.2)) C 63 11 rfl h8 rfl rfl dX6_ways_62 ?_
      refine s_aload_n C 64 0 rfl dX6_ways_63 rfl ?_
      refine s_get (C1 := RX6) (T := TX6) (N := 26) (ci := 5) C 67 0 24 uX6 rfl rfl (Nat.le_of_ble_eq_true rfl) uu1034 rfl rfl rfl dX6_ways_64 ?_
      refine s_iconst C 68 rfl dX6_ways_67 ic_0 ?_
      refine s_iconst C 69 rfl dX6_ways_68 ic_0 ?_
      obtain ⟨h9, hf⟩ := ck_in hf
      refine s_iast (ws1 := (wM ad cI m_left m_bites m_many m_imageLeft m_imageBites m_imageMany m_wasLeft m_wasBites m_wasMany m_hasImage m_letterMany m_rowMany m_place m_seed m_kind m_figure m_imageKind m_imageFigure m_wasKind m_wasFigure m_letters m_row m_refused m_numbers (upd e7.1 (0 : Int32).toNatClampNeg (1 : Int32)) (upd e7.2 (0 : Int32).toNatClampNeg (0 : Int32)))) C 70 12 rfl h9 rfl rfl dX6_ways_69 ?_
      refine s_iconst C 71 rfl dX6_ways_70 ic_0 ?_
      refine s_istore_n (lv1 := [(3, .int (0 : Int32)), (0, .ref (ad 0)), (1, .int a1), (2, .int ((33554431 : Int32) &&& (m_left ^^^ (-1 : Int32))))]) C 72 3 rfl dX6_ways_71 rfl (Nat.le_of_ble_eq_true rfl) rfl ?_
      refine s_lv (lv1 := [(0, .ref (ad 0)), (1, .int a1), (2, .int ((33554431 : Int32) &&& (m_left ^^^ (-1 : Int32)))), (3, .int (0 : Int32))]) [1, 2, 3, 0] rfl ?_
      refine s_kont (γ := (Nat → Int32) × (Nat → Int32)) (o := o) (fun KQ => f_X6_ways_72 ((33554431 : Int32) &&& (m_left ^^^ (-1 : Int32))) KQ 4000 (0 : Int32) (upd e7.1 (0 : Int32).toNatClampNeg (1 : Int32)) (upd e7.2 (0 : Int32).toNatClampNeg (0 : Int32)) = some o) 267 (fun e120 => [(0, .ref (ad 0)), (1, .int a1)]) (fun e120 => []) (fun e120 => (wM ad cI m_left m_bites m_many m_imageLeft m_imageBites m_imageMany m_wasLeft m_wasBites m_wasMany m_hasImage m_letterMany m_rowMany m_place m_seed m_kind m_figure m_imageKind m_imageFigure m_wasKind m_wasFigure m_letters m_row m_refused m_numbers e120.1 e120.2)) hf (fun e120 hf => ?_) (fun k119 hk119 hf => ?_)
      · refine s_iload_n C 268 1 rfl dX6_ways_267 rfl ?_
        refine s_if_ne C 282 271 rfl dX6_ways_268 rfl (fun hc123 => ?_) (fun hc123 => ?_)
        · replace hf := ite_f hc123 hf
          refine s_aload_n C 283 0 rfl dX6_ways_282 rfl ?_
          refine s_get (C1 := RX6) (T := TX6) (N := 26) (ci := 5) C 286 0 24 uX6 rfl rfl (Nat.le_of_ble_eq_true rfl) uu1034 rfl rfl rfl dX6_ways_283 ?_
          refine s_sipush C 289 rfl dX6_ways_286 sp_3200 ?_
          obtain ⟨h121, hf⟩ := ck_in hf
          refine s_iald C 290 12 rfl h121 rfl dX6_ways_289 ?_
          obtain rfl := Option.some.inj hf
          exact s_iret C (fun i => i) hr hlk rfl rfl dX6_ways_290
        · replace hf := ite_t hc123 hf
          refine s_aload_n C 272 0 rfl dX6_ways_271 rfl ?_
          refine s_get (C1 := RX6) (T := TX6) (N := 26) (ci := 5) C 275 0 23 uX6 rfl rfl (Nat.le_of_ble_eq_true rfl) uu1032 rfl rfl rfl dX6_ways_272 ?_
          refine s_sipush C 278 rfl dX6_ways_275 sp_3200 ?_
          obtain ⟨h122, hf⟩ := ck_in hf
          refine s_iald C 279 11 rfl h122 rfl dX6_ways_278 ?_
          refine s_goto C 290 dX6_ways_279 rfl ?_
          obtain rfl := Option.some.inj hf
          exact s_iret C (fun i => i) hr hlk rfl rfl dX6_ways_290
      · skip
        refine s_loop (α := Int32 × (Nat → Int32) × (Nat → Int32)) (fun n v124 => f_X6_ways_72 ((33554431 : Int32) &&& (m_left ^^^ (-1 : Int32))) k119 n v124.1 v124.2.1 v124.2.2) 72 (fun v124 => [(0, .ref (ad 0)), (1, .int a1), (2, .int ((33554431 : Int32) &&& (m_left ^^^ (-1 : Int32)))), (3, .int v124.1)]) (fun v124 => (wM ad cI m_left m_bites m_many m_imageLeft m_imageBites m_imageMany m_wasLeft m_wasBites m_wasMany m_hasImage m_letterMany m_rowMany m_place m_seed m_kind m_figure m_imageKind m_imageFigure m_wasKind m_wasFigure m_letters m_row m_refused m_numbers v124.2.1 v124.2.2)) 4000 ((0 : Int32), upd e7.1 (0 : Int32).toNatClampNeg (1 : Int32), upd e7.2 (0 : Int32).toNatClampNeg (0 : Int32)) hf (fun v124 hf => by simp only [f_X6_ways_72] at hf; exact absurd hf (by simp)) (fun n ih125 v124 hf => ?_)
        replace hf := (f_X6_ways_72_s _ _ _ _ _ _).symm.trans hf
        refine s_iload_n C 73 3 rfl dX6_ways_72 rfl ?_
        refine s_bipush C 75 rfl dX6_ways_73 bp_25 ?_
        refine s_icmp_ge C 267 78 rfl dX6_ways_75 rfl (fun hc172 => ?_) (fun hc172 => ?_)
        · replace hf := ite_t hc172 hf
          exact s_lv [0, 1] rfl (hk119 ((v124.2.1, v124.2.2) : (Nat → Int32) × (Nat → Int32)) hf)
        · replace hf := ite_f hc172 hf
          refine s_iconst C 79 rfl dX6_ways_78 ic_0 ?_
          refine s_istore (lv1 := [(4, .int (0 : Int32)), (0, .ref (ad 0)), (1, .int a1), (2, .int ((33554431 : Int32) &&& (m_left ^^^ (-1 : Int32)))), (3, .int v124.1)]) C 81 4 rfl dX6_ways_79 (Nat.le_of_ble_eq_true rfl) rfl ?_
          refine s_lv (lv1 := [(0, .ref (ad 0)), (1, .int a1), (2, .int ((33554431 : Int32) &&& (m_left ^^^ (-1 : Int32)))), (3, .int v124.1), (4, .int (0 : Int32))]) [1, 2, 3, 4, 0] rfl ?_
          refine s_kont (γ := (Nat → Int32) × (Nat → Int32)) (o := o) (fun KQ => f_X6_ways_81 ((33554431 : Int32) &&& (m_left ^^^ (-1 : Int32))) v124.1 KQ 4000 (0 : Int32) v124.2.1 v124.2.2 = some o) 261 (fun e127 => [(0, .ref (ad 0)), (1, .int a1), (2, .int ((33554431 : Int32) &&& (m_left ^^^ (-1 : Int32)))), (3, .int v124.1)]) (fun e127 => []) (fun e127 => (wM ad cI m_left m_bites m_many m_imageLeft m_imageBites m_imageMany m_wasLeft m_wasBites m_wasMany m_hasImage m_letterMany m_rowMany m_place m_seed m_kind m_figure m_imageKind m_imageFigure m_wasKind m_wasFigure m_letters m_row m_refused m_numbers e127.1 e127.2)) hf (fun e127 hf => ?_) (fun k126 hk126 hf => ?_)
          · refine s_iinc (lv1 := [(3, .int (v124.1 + (1 : Int32))), (0, .ref (ad 0)), (1, .int a1), (2, .int ((33554431 : Int32) &&& (m_left ^^^ (-1 : Int32))))]) C 264 3 3 rfl dX6_ways_261 rfl ic_1 (Nat.le_of_ble_eq_true rfl) rfl ?_
            refine s_goto C 72 dX6_ways_264 rfl ?_
            exact s_lv [1, 2, 3, 0] rfl (ih125 ((v124.1 + (1 : Int32), e127.1, e127.2) : Int32 × (Nat → Int32) × (Nat → Int32)) hf)
          · skip
            refine s_loop (α := Int32 × (Nat → Int32) × (Nat → Int32)) (fun n v128 => f_X6_ways_81 ((33554431 : Int32) &&& (m_left ^^^ (-1 : Int32))) v124.1 k126 n v128.1 v128.2.1 v128.2.2) 81 (fun v128 => [(0, .ref (ad 0)), (1, .int a1), (2, .int ((33554431 : Int32) &&& (m_left ^^^ (-1 : Int32)))), (3, .int v124.1), (4, .int v128.1)]) (fun v128 => (wM ad cI m_left m_bites m_many m_imageLeft m_imageBites m_imageMany m_wasLeft m_wasBites m_wasMany m_hasImage m_letterMany m_rowMany m_place m_seed m_kind m_figure m_imageKind m_imageFigure m_wasKind m_wasFigure m_letters m_row m_refused m_numbers v128.2.1 v128.2.2)) 4000 ((0 : Int32), v124.2.1, v124.2.2) hf (fun v128 hf => by simp only [f_X6_ways_81] at hf; exact absurd hf (by simp)) (fun n ih129 v128 hf => ?_)
            replace hf := (f_X6_ways_81_s _ _ _ _ _ _ _).symm.trans hf
            refine s_iload C 83 4 rfl dX6_ways_81 rfl ?_
            refine s_sipush C 86 rfl dX6_ways_83 sp_128 ?_
            refine s_icmp_ge C 261 89 rfl dX6_ways_86 rfl (fun hc171 => ?_) (fun hc171 => ?_)
            · replace hf := ite_t hc171 hf
              exact s_lv [0, 1, 2, 3] rfl (hk126 ((v128.2.1, v128.2.2) : (Nat → Int32) × (Nat → Int32)) hf)
            · replace hf := ite_f hc171 hf
              refine s_sipush C 92 rfl dX6_ways_89 sp_128 ?_
              refine s_iload_n C 93 3 rfl dX6_ways_92 rfl ?_
              refine s_imul C 94 rfl dX6_ways_93 ?_
              refine s_iload C 96 4 rfl dX6_ways_94 rfl ?_
              refine s_iadd C 97 rfl dX6_ways_96 ?_
              refine s_istore (lv1 := [(5, .int (((128 : Int32) * v124.1) + v128.1)), (0, .ref (ad 0)), (1, .int a1), (2, .int ((33554431 : Int32) &&& (m_left ^^^ (-1 : Int32)))), (3, .int v124.1), (4, .int v128.1)]) C 99 5 rfl dX6_ways_97 (Nat.le_of_ble_eq_true rfl) rfl ?_
              refine s_aload_n C 100 1 rfl dX6_ways_99 rfl ?_
              refine s_get (C1 := RX6) (T := TX6) (N := 26) (ci := 5) C 103 0 24 uX6 rfl rfl (Nat.le_of_ble_eq_true rfl) uu1034 rfl rfl rfl dX6_ways_100 ?_
              refine s_iload C 105 0 rfl dX6_ways_103 rfl ?_
              obtain ⟨h130, hf⟩ := ck_in hf
              refine s_iald C 106 12 rfl h130 rfl dX6_ways_105 ?_
              refine s_ldc C 108 rfl dX6_ways_106 uu1362 ?_
              refine s_icmp_ne C 114 111 rfl dX6_ways_108 rfl (fun hc170 => ?_) (fun hc170 => ?_)
              · replace hf := ite_f hc170 hf
                refine s_iload C 116 5 rfl dX6_ways_114 rfl ?_
                refine s_iconst C 117 rfl dX6_ways_116 ic_0 ?_
                obtain ⟨r131, q132, hf⟩ := bn_s hf
                refine s_callS0 (host := "") (rest := []) C 120 (c_X6_has l D cI adK adV v128.1 (0 : Int32) r131 q132) (gS uu1218 uu1220 uu6 uu1221) hd_X6_has rfl ⟨rfl, rfl⟩ ⟨Nat.le_of_ble_eq_true rfl, Nat.le_of_ble_eq_true rfl⟩ ⟨Nat.le_of_ble_eq_true rfl, Nat.le_of_ble_eq_true rfl⟩ rfl (Nat.le_of_ble_eq_true rfl) rfl dX6_ways_117 ?_
                refine s_bn (α := (Nat → Int32) × (Nat → Int32)) 156 (fun j133 => [(0, .ref (ad 0)), (1, .int a1), (2, .int ((33554431 : Int32) &&& (m_left ^^^ (-1 : Int32)))), (3, .int v124.1), (4, .int v128.1), (5, .int (((128 : Int32) * v124.1) + v128.1))]) (fun j133 => []) (fun j133 => (wM ad cI m_left m_bites m_many m_imageLeft m_imageBites m_imageMany m_wasLeft m_wasBites m_wasMany m_hasImage m_letterMany m_rowMany m_place m_seed m_kind m_figure m_imageKind m_imageFigure m_wasKind m_wasFigure m_letters m_row m_refused m_numbers j133.1 j133.2)) hf (fun j133 hf => ?_) (fun hj hf => ?_)
                · refine s_iconst C 157 rfl dX6_ways_156 ic_0 ?_
                  refine s_istore (lv1 := [(6, .int (0 : Int32)), (0, .ref (ad 0)), (1, .int a1), (2, .int ((33554431 : Int32) &&& (m_left ^^^ (-1 : Int32)))), (3, .int v124.1), (4, .int v128.1), (5, .int (((128 : Int32) * v124.1) + v128.1))]) C 159 6 rfl dX6_ways_157 (Nat.le_of_ble_eq_true rfl) rfl ?_
                  refine s_lv (lv1 := [(0, .ref (ad 0)), (1, .int a1), (2, .int ((33554431 : Int32) &&& (m_left ^^^ (-1 : Int32)))), (3, .int v124.1), (4, .int v128.1), (5, .int (((128 : Int32) * v124.1) + v128.1)), (6, .int (0 : Int32))]) [1, 2, 3, 4, 5, 6, 0] rfl ?_
                  refine s_kont (γ := (Nat → Int32) × (Nat → Int32)) (o := o) (fun KQ => f_X6_ways_159 ((33554431 : Int32) &&& (m_left ^^^ (-1 : Int32))) v124.1 v128.1 (((128 : Int32) * v124.1) + v128.1) KQ 4000 (0 : Int32) j133.1 j133.2 = some o) 255 (fun e147 => [(0, .ref (ad 0)), (1, .int a1), (2, .int ((33554431 : Int32) &&& (m_left ^^^ (-1 : Int32)))), (3, .int v124.1), (4, .int v128.1)]) (fun e147 => []) (fun e147 => (wM ad cI m_left m_bites m_many m_imageLeft m_imageBites m_imageMany m_wasLeft m_wasBites m_wasMany m_hasImage m_letterMany m_rowMany m_place m_seed m_kind m_figure m_imageKind m_imageFigure m_wasKind m_wasFigure m_letters m_row m_refused m_numbers e147.1 e147.2)) hf (fun e147 hf => ?_) (fun k146 hk146 hf => ?_)
                  · refine s_iinc (lv1 := [(4, .int (v128.1 + (1 : Int32))), (0, .ref (ad 0)), (1, .int a1), (2, .int ((33554431 : Int32) &&& (m_left ^^^ (-1 : Int32)))), (3, .int v124.1)]) C 258 4 4 rfl dX6_ways_255 rfl ic_1 (Nat.le_of_ble_eq_true rfl) rfl ?_
                    refine s_goto C 81 dX6_ways_258 rfl ?_
                    exact s_lv [1, 2, 3, 4, 0] rfl (ih129 ((v128.1 + (1 : Int32), e147.1, e147.2) : Int32 × (Nat → Int32) × (Nat → Int32)) hf)
                  · skip
                    refine s_loop (α := Int32 × (Nat → Int32) × (Nat → Int32)) (fun n v148 => f_X6_ways_159 ((33554431 : Int32) &&& (m_left ^^^ (-1 : Int32))) v124.1 v128.1 (((128 : Int32) * v124.1) + v128.1) k146 n v148.1 v148.2.1 v148.2.2) 159 (fun v148 => [(0, .ref (ad 0)), (1, .int a1), (2, .int ((33554431 : Int32) &&& (m_left ^^^ (-1 : Int32)))), (3, .int v124.1), (4, .int v128.1), (5, .int (((128 : Int32) * v124.1) + v128.1)), (6, .int v148.1)]) (fun v148 => (wM ad cI m_left m_bites m_many m_imageLeft m_imageBites m_imageMany m_wasLeft m_wasBites m_wasMany m_hasImage m_letterMany m_rowMany m_place m_seed m_kind m_figure m_imageKind m_imageFigure m_wasKind m_wasFigure m_letters m_row m_refused m_numbers v148.2.1 v148.2.2)) 4000 ((0 : Int32), j133.1, j133.2) hf (fun v148 hf => by simp only [f_X6_ways_159] at hf; exact absurd hf (by simp)) (fun n ih149 v148 hf => ?_)
                    replace hf := (f_X6_ways_159_s _ _ _ _ _ _ _ _ _).symm.trans hf
                    refine s_iload C 161 6 rfl dX6_ways_159 rfl ?_
                    refine s_iconst C 162 rfl dX6_ways_161 ic_4 ?_
                    refine s_icmp_ge C 255 165 rfl dX6_ways_162 rfl (fun hc169 => ?_) (fun hc169 => ?_)
                    · replace hf := ite_t hc169 hf
                      exact s_lv [0, 1, 2, 3, 4] rfl (hk146 ((v148.2.1, v148.2.2) : (Nat → Int32) × (Nat → Int32)) hf)
                    · replace hf := ite_f hc169 hf
                      refine s_iload_n C 166 2 rfl dX6_ways_165 rfl ?_
                      refine s_iload_n C 167 3 rfl dX6_ways_166 rfl ?_
                      obtain ⟨r150, q151, hf⟩ := bn_s hf
                      refine s_callS0 (host := "") (rest := []) C 170 (c_X6_has l D cI adK adV ((33554431 : Int32) &&& (m_left ^^^ (-1 : Int32))) v124.1 r150 q151) (gS uu1218 uu1220 uu6 uu1221) hd_X6_has rfl ⟨rfl, rfl⟩ ⟨Nat.le_of_ble_eq_true rfl, Nat.le_of_ble_eq_true rfl⟩ ⟨Nat.le_of_ble_eq_true rfl, Nat.le_of_ble_eq_true rfl⟩ rfl (Nat.le_of_ble_eq_true rfl) rfl dX6_ways_167 ?_
                      refine s_if_eq C 255 173 rfl dX6_ways_170 rfl (fun hc168 => ?_) (fun hc168 => ?_)
                      · replace hf := ite_t hc168 hf
                        exact s_lv [0, 1, 2, 3, 4] rfl (hk146 ((v148.2.1, v148.2.2) : (Nat → Int32) × (Nat → Int32)) hf)
                      · replace hf := ite_f hc168 hf
                        refine s_iload C 175 4 rfl dX6_ways_173 rfl ?_
                        refine s_iconst C 176 rfl dX6_ways_175 ic_0 ?_
                        obtain ⟨r152, q153, hf⟩ := bn_s hf
                        refine s_callS0 (host := "") (rest := []) C 179 (c_X6_has l D cI adK adV v128.1 (0 : Int32) r152 q153) (gS uu1218 uu1220 uu6 uu1221) hd_X6_has rfl ⟨rfl, rfl⟩ ⟨Nat.le_of_ble_eq_true rfl, Nat.le_of_ble_eq_true rfl⟩ ⟨Nat.le_of_ble_eq_true rfl, Nat.le_of_ble_eq_true rfl⟩ rfl (Nat.le_of_ble_eq_true rfl) rfl dX6_ways_176 ?_
                        refine s_if_ne C 255 182 rfl dX6_ways_179 rfl (fun hc167 => ?_) (fun hc167 => ?_)
                        · replace hf := ite_f hc167 hf
                          exact s_lv [0, 1, 2, 3, 4] rfl (hk146 ((v148.2.1, v148.2.2) : (Nat → Int32) × (Nat → Int32)) hf)
                        · replace hf := ite_t hc167 hf
                          refine s_iload_n C 183 2 rfl dX6_ways_182 rfl ?_
                          refine s_iload C 185 6 rfl dX6_ways_183 rfl ?_
                          refine s_iload_n C 186 3 rfl dX6_ways_185 rfl ?_
                          obtain ⟨r154, q155, hf⟩ := bn_s hf
                          refine s_callS0 (host := "") (rest := []) C 189 (c_X6_canBite l D cI adK adV ((33554431 : Int32) &&& (m_left ^^^ (-1 : Int32))) v148.1 v124.1 r154 q155) (gS uu1126 uu1128 uu6 uu1129) hd_X6_canBite rfl ⟨rfl, rfl⟩ ⟨Nat.le_of_ble_eq_true rfl, Nat.le_of_ble_eq_true rfl⟩ ⟨Nat.le_of_ble_eq_true rfl, Nat.le_of_ble_eq_true rfl⟩ rfl (Nat.le_of_ble_eq_true rfl) rfl dX6_ways_186 ?_
                          refine s_bn (α := Int32) 204 (fun j156 => [(0, .ref (ad 0)), (1, .int a1), (2, .int ((33554431 : Int32) &&& (m_left ^^^ (-1 : Int32)))), (3, .int v124.1), (4, .int v128.1), (5, .int (((128 : Int32) * v124.1) + v128.1)), (6, .int v148.1)]) (fun j156 => [.int j156]) (fun j156 => (wM ad cI m_left m_bites m_many m_imageLeft m_imageBites m_imageMany m_wasLeft m_wasBites m_wasMany m_hasImage m_letterMany m_rowMany m_place m_seed m_kind m_figure m_imageKind m_imageFigure m_wasKind m_wasFigure m_letters m_row m_refused m_numbers v148.2.1 v148.2.2)) hf (fun j156 hf => ?_) (fun hj hf => ?_)
                          · refine s_istore (lv1 := [(7, .int j156), (0, .ref (ad 0)), (1, .int a1), (2, .int ((33554431 : Int32) &&& (m_left ^^^ (-1 : Int32)))), (3, .int v124.1), (4, .int v128.1), (5, .int (((128 : Int32) * v124.1) + v128.1)), (6, .int v148.1)]) C 206 7 rfl dX6_ways_204 (Nat.le_of_ble_eq_true rfl) rfl ?_
                            refine s_iload C 208 0 rfl dX6_ways_206 rfl ?_
                            refine s_bn (α := (Nat → Int32) × (Nat → Int32)) 249 (fun j160 => [(0, .ref (ad 0)), (1, .int a1), (2, .int ((33554431 : Int32) &&& (m_left ^^^ (-1 : Int32)))), (3, .int v124.1), (4, .int v128.1), (5, .int (((128 : Int32) * v124.1) + v128.1)), (6, .int v148.1)]) (fun j160 => []) (fun j160 => (wM ad cI m_left m_bites m_many m_imageLeft m_imageBites m_imageMany m_wasLeft m_wasBites m_wasMany m_hasImage m_letterMany m_rowMany m_place m_seed m_kind m_figure m_imageKind m_imageFigure m_wasKind m_wasFigure m_letters m_row m_refused m_numbers j160.1 j160.2)) hf (fun j160 hf => ?_) (fun hj hf => ?_)
                            · refine s_iinc (lv1 := [(6, .int (v148.1 + (1 : Int32))), (0, .ref (ad 0)), (1, .int a1), (2, .int ((33554431 : Int32) &&& (m_left ^^^ (-1 : Int32)))), (3, .int v124.1), (4, .int v128.1), (5, .int (((128 : Int32) * v124.1) + v128.1))]) C 252 6 6 rfl dX6_ways_249 rfl ic_1 (Nat.le_of_ble_eq_true rfl) rfl ?_
                              refine s_goto C 159 dX6_ways_252 rfl ?_
                              exact s_lv [1, 2, 3, 4, 5, 6, 0] rfl (ih149 ((v148.1 + (1 : Int32), j160.1, j160.2) : Int32 × (Nat → Int32) × (Nat → Int32)) hf)
                            · refine s_if_eq C 249 211 rfl dX6_ways_208 rfl (fun hc166 => ?_) (fun hc166 => ?_)
                              · replace hf := bn_t hc166 hf
                                replace hf := bn_i hf
                                exact s_lv [1, 2, 3, 4, 5, 6, 7] rfl (hj ((v148.2.1, v148.2.2) : (Nat → Int32) × (Nat → Int32)) hf)
                              · replace hf := bn_f hc166 hf
                                refine s_iload C 213 0 rfl dX6_ways_211 rfl ?_
                                refine s_iload C 215 5 rfl dX6_ways_213 rfl ?_
                                refine s_iand C 216 rfl dX6_ways_215 ?_
                                refine s_if_ne C 249 219 rfl dX6_ways_216 rfl (fun hc165 => ?_) (fun hc165 => ?_)
                                · replace hf := bn_f hc165 hf
                                  replace hf := bn_i hf
                                  exact s_lv [1, 2, 3, 4, 5, 6, 7] rfl (hj ((v148.2.1, v148.2.2) : (Nat → Int32) × (Nat → Int32)) hf)
                                · replace hf := bn_t hc165 hf
                                  refine s_aload_n C 220 1 rfl dX6_ways_219 rfl ?_
                                  refine s_iload_n C 221 4 rfl dX6_ways_220 rfl ?_
                                  refine s_iconst C 222 rfl dX6_ways_221 ic_1 ?_
                                  refine s_iadd C 223 rfl dX6_ways_222 ?_
                                  refine s_iload C 225 5 rfl dX6_ways_223 rfl ?_
                                  refine s_iload C 227 0 rfl dX6_ways_225 rfl ?_
                                  refine s_ior C 228 rfl dX6_ways_227 ?_
                                  refine s_iconst C 229 rfl dX6_ways_228 ic_1 ?_
                                  refine s_ishr C 230 rfl dX6_ways_229 ?_
                                  refine s_aload_n C 231 1 rfl dX6_ways_230 rfl ?_
                                  refine s_get (C1 := RX6) (T := TX6) (N := 26) (ci := 5) C 234 0 23 uX6 rfl rfl (Nat.le_of_ble_eq_true rfl) uu1032 rfl rfl rfl dX6_ways_231 ?_
                                  refine s_iload C 236 6 rfl dX6_ways_234 rfl ?_
                                  obtain ⟨h161, hf⟩ := ck_inb hf
                                  refine s_iald C 237 11 rfl h161 rfl dX6_ways_236 ?_
                                  refine s_aload_n C 238 1 rfl dX6_ways_237 rfl ?_
                                  refine s_get (C1 := RX6) (T := TX6) (N := 26) (ci := 5) C 241 0 24 uX6 rfl rfl (Nat.le_of_ble_eq_true rfl) uu1034 rfl rfl rfl dX6_ways_238 ?_
                                  refine s_iload C 243 6 rfl dX6_ways_241 rfl ?_
                                  obtain ⟨h162, hf⟩ := ck_inb hf
                                  refine s_iald C 244 12 rfl h162 rfl dX6_ways_243 ?_
                                  refine s_iconst C 245 rfl dX6_ways_244 ic_1 ?_
                                  refine s_iadd C 246 rfl dX6_ways_245 ?_
                                  obtain ⟨r163, q164, hf⟩ := bn_b hf
                                  refine s_callW (T := TX6) (N := 26) (ci := 5) (q0 := 0) (rest := []) C 249 (c_X6_comesTo l D cI adK adV ad m_left m_bites m_many m_imageLeft m_imageBites m_imageMany m_wasLeft m_wasBites m_wasMany m_hasImage m_letterMany m_rowMany m_place m_seed m_kind m_figure m_imageKind m_imageFigure m_wasKind m_wasFigure m_letters m_row m_refused m_numbers v148.2.1 v148.2.2 (v124.1 + (1 : Int32)) (jshr (v128.1 ||| j156) (1 : Int32)) (v148.2.1 (((128 : Int32) * v124.1) + v128.1).toNatClampNeg) ((v148.2.2 (((128 : Int32) * v124.1) + v128.1).toNatClampNeg) + (1 : Int32)) r163 q164) (gV uu1364 uu1366 uu1588 uu6 uu1367) hd_X6_comesTo rfl ⟨rfl, rfl⟩ ⟨Nat.le_of_ble_eq_true rfl, Nat.le_of_ble_eq_true rfl⟩ ⟨Nat.le_of_ble_eq_true rfl, Nat.le_of_ble_eq_true rfl⟩ rfl rfl rfl (Nat.le_of_ble_eq_true rfl) rfl dX6_ways_246 (fun _ => ?_)
                                  replace hf := bn_i hf
                                  exact s_lv [1, 2, 3, 4, 5, 6, 7] rfl (hj ((r163.1, r163.2) : (Nat → Int32) × (Nat → Int32)) hf)
                          · refine s_if_eq C 203 192 rfl dX6_ways_189 rfl (fun hc159 => ?_) (fun hc159 => ?_)
                            · replace hf := bn_t hc159 hf
                              refine s_iconst C 204 rfl dX6_ways_203 ic_0 ?_
                              replace hf := bn_i hf
                              exact s_lv [0, 1, 2, 3, 4, 5, 6] rfl (hj ((0 : Int32) : Int32) hf)
                            · replace hf := bn_f hc159 hf
                              refine s_iload C 194 6 rfl dX6_ways_192 rfl ?_
                              refine s_iload_n C 195 3 rfl dX6_ways_194 rfl ?_
                              obtain ⟨r157, q158, hf⟩ := bn_b hf
                              refine s_callS0 (host := "") (rest := []) C 198 (c_X6_bite l D cI adK adV v148.1 v124.1 r157 q158) (gS uu1131 uu1133 uu6 uu1134) hd_X6_bite rfl ⟨rfl, rfl⟩ ⟨Nat.le_of_ble_eq_true rfl, Nat.le_of_ble_eq_true rfl⟩ ⟨Nat.le_of_ble_eq_true rfl, Nat.le_of_ble_eq_true rfl⟩ rfl (Nat.le_of_ble_eq_true rfl) rfl dX6_ways_195 ?_
                              refine s_iload_n C 199 3 rfl dX6_ways_198 rfl ?_
                              refine s_ishr C 200 rfl dX6_ways_199 ?_
                              refine s_goto C 204 dX6_ways_200 rfl ?_
                              replace hf := bn_i hf
                              exact s_lv [0, 1, 2, 3, 4, 5, 6] rfl (hj (jshr r157 v124.1 : Int32) hf)
                · refine s_if_ne C 131 123 rfl dX6_ways_120 rfl (fun hc145 => ?_) (fun hc145 => ?_)
                  · replace hf := bn_f hc145 hf
                    refine s_aload_n C 132 1 rfl dX6_ways_131 rfl ?_
                    refine s_iload_n C 133 4 rfl dX6_ways_132 rfl ?_
                    refine s_iconst C 134 rfl dX6_ways_133 ic_1 ?_
                    refine s_iadd C 135 rfl dX6_ways_134 ?_
                    refine s_iload C 137 5 rfl dX6_ways_135 rfl ?_
                    refine s_iconst C 138 rfl dX6_ways_137 ic_1 ?_
                    refine s_ishr C 139 rfl dX6_ways_138 ?_
                    refine s_aload_n C 140 1 rfl dX6_ways_139 rfl ?_
                    refine s_get (C1 := RX6) (T := TX6) (N := 26) (ci := 5) C 143 0 23 uX6 rfl rfl (Nat.le_of_ble_eq_true rfl) uu1032 rfl rfl rfl dX6_ways_140 ?_
                    refine s_iload C 145 0 rfl dX6_ways_143 rfl ?_
                    obtain ⟨h134, hf⟩ := ck_inb hf
                    refine s_iald C 146 11 rfl h134 rfl dX6_ways_145 ?_
                    refine s_aload_n C 147 1 rfl dX6_ways_146 rfl ?_
                    refine s_get (C1 := RX6) (T := TX6) (N := 26) (ci := 5) C 150 0 24 uX6 rfl rfl (Nat.le_of_ble_eq_true rfl) uu1034 rfl rfl rfl dX6_ways_147 ?_
                    refine s_iload C 152 0 rfl dX6_ways_150 rfl ?_
                    obtain ⟨h135, hf⟩ := ck_inb hf
                    refine s_iald C 153 12 rfl h135 rfl dX6_ways_152 ?_
                    obtain ⟨r136, q137, hf⟩ := bn_b hf
                    refine s_callW (T := TX6) (N := 26) (ci := 5) (q0 := 0) (rest := []) C 156 (c_X6_comesTo l D cI adK adV ad m_left m_bites m_many m_imageLeft m_imageBites m_imageMany m_wasLeft m_wasBites m_wasMany m_hasImage m_letterMany m_rowMany m_place m_seed m_kind m_figure m_imageKind m_imageFigure m_wasKind m_wasFigure m_letters m_row m_refused m_numbers v128.2.1 v128.2.2 (v124.1 + (1 : Int32)) (jshr v128.1 (1 : Int32)) (v128.2.1 (((128 : Int32) * v124.1) + v128.1).toNatClampNeg) (v128.2.2 (((128 : Int32) * v124.1) + v128.1).toNatClampNeg) r136 q137) (gV uu1364 uu1366 uu1588 uu6 uu1367) hd_X6_comesTo rfl ⟨rfl, rfl⟩ ⟨Nat.le_of_ble_eq_true rfl, Nat.le_of_ble_eq_true rfl⟩ ⟨Nat.le_of_ble_eq_true rfl, Nat.le_of_ble_eq_true rfl⟩ rfl rfl rfl (Nat.le_of_ble_eq_true rfl) rfl dX6_ways_153 (fun _ => ?_)
                    replace hf := bn_i hf
                    exact s_lv [1, 2, 3, 4, 5, 0] rfl (hj ((r136.1, r136.2) : (Nat → Int32) × (Nat → Int32)) hf)
                  · replace hf := bn_t hc145 hf
                    refine s_iload_n C 124 3 rfl dX6_ways_123 rfl ?_
                    refine s_iload_n C 125 4 rfl dX6_ways_124 rfl ?_
                    obtain ⟨r138, q139, hf⟩ := bn_b hf
                    refine s_callS0 (host := "") (rest := []) C 128 (c_X6_has l D cI adK adV ((33554431 : Int32) &&& (m_left ^^^ (-1 : Int32))) v124.1 r138 q139) (gS uu1218 uu1220 uu6 uu1221) hd_X6_has rfl ⟨rfl, rfl⟩ ⟨Nat.le_of_ble_eq_true rfl, Nat.le_of_ble_eq_true rfl⟩ ⟨Nat.le_of_ble_eq_true rfl, Nat.le_of_ble_eq_true rfl⟩ rfl (Nat.le_of_ble_eq_true rfl) rfl dX6_ways_125 ?_
                    refine s_if_ne C 156 131 rfl dX6_ways_128 rfl (fun hc144 => ?_) (fun hc144 => ?_)
                    · replace hf := bn_f hc144 hf
                      replace hf := bn_i hf
                      exact s_lv [1, 2, 3, 4, 5, 0] rfl (hj ((v128.2.1, v128.2.2) : (Nat → Int32) × (Nat → Int32)) hf)
                    · replace hf := bn_t hc144 hf
                      refine s_aload_n C 132 1 rfl dX6_ways_131 rfl ?_
                      refine s_iload_n C 133 4 rfl dX6_ways_132 rfl ?_
                      refine s_iconst C 134 rfl dX6_ways_133 ic_1 ?_
                      refine s_iadd C 135 rfl dX6_ways_134 ?_
                      refine s_iload C 137 5 rfl dX6_ways_135 rfl ?_
                      refine s_iconst C 138 rfl dX6_ways_137 ic_1 ?_
                      refine s_ishr C 139 rfl dX6_ways_138 ?_
                      refine s_aload_n C 140 1 rfl dX6_ways_139 rfl ?_
                      refine s_get (C1 := RX6) (T := TX6) (N := 26) (ci := 5) C 143 0 23 uX6 rfl rfl (Nat.le_of_ble_eq_true rfl) uu1032 rfl rfl rfl dX6_ways_140 ?_
                      refine s_iload C 145 0 rfl dX6_ways_143 rfl ?_
                      obtain ⟨h140, hf⟩ := ck_inb hf
                      refine s_iald C 146 11 rfl h140 rfl dX6_ways_145 ?_
                      refine s_aload_n C 147 1 rfl dX6_ways_146 rfl ?_
                      refine s_get (C1 := RX6) (T := TX6) (N := 26) (ci := 5) C 150 0 24 uX6 rfl rfl (Nat.le_of_ble_eq_true rfl) uu1034 rfl rfl rfl dX6_ways_147 ?_
                      refine s_iload C 152 0 rfl dX6_ways_150 rfl ?_
                      obtain ⟨h141, hf⟩ := ck_inb hf
                      refine s_iald C 153 12 rfl h141 rfl dX6_ways_152 ?_
                      obtain ⟨r142, q143, hf⟩ := bn_b hf
                      refine s_callW (T := TX6) (N := 26) (ci := 5) (q0 := 0) (rest := []) C 156 (c_X6_comesTo l D cI adK adV ad m_left m_bites m_many m_imageLeft m_imageBites m_imageMany m_wasLeft m_wasBites m_wasMany m_hasImage m_letterMany m_rowMany m_place m_seed m_kind m_figure m_imageKind m_imageFigure m_wasKind m_wasFigure m_letters m_row m_refused m_numbers v128.2.1 v128.2.2 (v124.1 + (1 : Int32)) (jshr v128.1 (1 : Int32)) (v128.2.1 (((128 : Int32) * v124.1) + v128.1).toNatClampNeg) (v128.2.2 (((128 : Int32) * v124.1) + v128.1).toNatClampNeg) r142 q143) (gV uu1364 uu1366 uu1588 uu6 uu1367) hd_X6_comesTo rfl ⟨rfl, rfl⟩ ⟨Nat.le_of_ble_eq_true rfl, Nat.le_of_ble_eq_true rfl⟩ ⟨Nat.le_of_ble_eq_true rfl, Nat.le_of_ble_eq_true rfl⟩ rfl rfl rfl (Nat.le_of_ble_eq_true rfl) rfl dX6_ways_153 (fun _ => ?_)
                      replace hf := bn_i hf
                      exact s_lv [1, 2, 3, 4, 5, 0] rfl (hj ((r142.1, r142.2) : (Nat → Int32) × (Nat → Int32)) hf)
              · replace hf := ite_t hc170 hf
                refine s_goto C 255 dX6_ways_111 rfl ?_
                refine s_iinc (lv1 := [(4, .int (v128.1 + (1 : Int32))), (5, .int (((128 : Int32) * v124.1) + v128.1)), (0, .ref (ad 0)), (1, .int a1), (2, .int ((33554431 : Int32) &&& (m_left ^^^ (-1 : Int32)))), (3, .int v124.1)]) C 258 4 5 rfl dX6_ways_255 rfl ic_1 (Nat.le_of_ble_eq_true rfl) rfl ?_
                refine s_goto C 81 dX6_ways_258 rfl ?_
                exact s_lv [2, 3, 4, 5, 0] rfl (ih129 ((v128.1 + (1 : Int32), v128.2.1, v128.2.2) : Int32 × (Nat → Int32) × (Nat → Int32)) hf)
    · skip
      refine s_loop (α := Int32 × (Nat → Int32) × (Nat → Int32)) (fun n v173 => f_X6_ways_28 k6 n v173.1 v173.2.1 v173.2.2) 28 (fun v173 => [(0, .ref (ad 0)), (1, .int a1), (2, .int ((33554431 : Int32) &&& (m_left ^^^ (-1 : Int32)))), (3, .int v173.1)]) (fun v173 => (wM ad cI m_left m_bites m_many m_imageLeft m_imageBites m_imageMany m_wasLeft m_wasBites m_wasMany m_hasImage m_letterMany m_rowMany m_place m_seed m_kind m_figure m_imageKind m_imageFigure m_wasKind m_wasFigure m_letters m_row m_refused m_numbers v173.2.1 v173.2.2)) 4000 ((0 : Int32), m_counted, m_few) hf (fun v173 hf => by simp only [f_X6_ways_28] at hf; exact absurd hf (by simp)) (fun n ih174 v173 hf => ?_)
      replace hf := (f_X6_ways_28_s _ _ _ _ _).symm.trans hf
      refine s_iload_n C 29 3 rfl dX6_ways_28 rfl ?_
      refine s_sipush C 32 rfl dX6_ways_29 sp_3328 ?_
      refine s_icmp_ge C 56 35 rfl dX6_ways_32 rfl (fun hc177 => ?_) (fun hc177 => ?_)
      · replace hf := ite_t hc177 hf
        exact s_lv [0, 1, 2] rfl (hk6 ((v173.2.1, v173.2.2) : (Nat → Int32) × (Nat → Int32)) hf)
      · replace hf := ite_f hc177 hf
        refine s_aload_n C 36 0 rfl dX6_ways_35 rfl ?_
        refine s_get (C1 := RX6) (T := TX6) (N := 26) (ci := 5) C 39 0 23 uX6 rfl rfl (Nat.le_of_ble_eq_true rfl) uu1032 rfl rfl rfl dX6_ways_36 ?_
        refine s_iload_n C 40 3 rfl dX6_ways_39 rfl ?_
        refine s_iconst C 41 rfl dX6_ways_40 ic_0 ?_
        obtain ⟨h175, hf⟩ := ck_in hf
        refine s_iast (ws1 := (wM ad cI m_left m_bites m_many m_imageLeft m_imageBites m_imageMany m_wasLeft m_wasBites m_wasMany m_hasImage m_letterMany m_rowMany m_place m_seed m_kind m_figure m_imageKind m_imageFigure m_wasKind m_wasFigure m_letters m_row m_refused m_numbers (upd v173.2.1 v173.1.toNatClampNeg (0 : Int32)) v173.2.2)) C 42 11 rfl h175 rfl rfl dX6_ways_41 ?_
        refine s_aload_n C 43 0 rfl dX6_ways_42 rfl ?_
        refine s_get (C1 := RX6) (T := TX6) (N := 26) (ci := 5) C 46 0 24 uX6 rfl rfl (Nat.le_of_ble_eq_true rfl) uu1034 rfl rfl rfl dX6_ways_43 ?_
        refine s_iload_n C 47 3 rfl dX6_ways_46 rfl ?_
        refine s_ldc C 49 rfl dX6_ways_47 uu1362 ?_
        obtain ⟨h176, hf⟩ := ck_in hf
        refine s_iast (ws1 := (wM ad cI m_left m_bites m_many m_imageLeft m_imageBites m_imageMany m_wasLeft m_wasBites m_wasMany m_hasImage m_letterMany m_rowMany m_place m_seed m_kind m_figure m_imageKind m_imageFigure m_wasKind m_wasFigure m_letters m_row m_refused m_numbers (upd v173.2.1 v173.1.toNatClampNeg (0 : Int32)) (upd v173.2.2 v173.1.toNatClampNeg (1000000000 : Int32)))) C 50 12 rfl h176 rfl rfl dX6_ways_49 ?_
        refine s_iinc (lv1 := [(3, .int (v173.1 + (1 : Int32))), (0, .ref (ad 0)), (1, .int a1), (2, .int ((33554431 : Int32) &&& (m_left ^^^ (-1 : Int32))))]) C 53 3 3 rfl dX6_ways_50 rfl ic_1 (Nat.le_of_ble_eq_true rfl) rfl ?_
        refine s_goto C 28 dX6_ways_53 rfl ?_
        exact s_lv [1, 2, 3, 0] rfl (ih174 ((v173.1 + (1 : Int32), upd v173.2.1 v173.1.toNatClampNeg (0 : Int32), upd v173.2.2 v173.1.toNatClampNeg (1000000000 : Int32)) : Int32 × (Nat → Int32) × (Nat → Int32)) hf)
  · replace hf := ite_t hc180 hf
    refine s_aload_n C 10 0 rfl dX6_ways_9 rfl ?_
    refine s_bipush C 12 rfl dX6_ways_10 bp_m2 ?_
    obtain ⟨r178, q179, hf⟩ := bn_s hf
    refine s_callW (T := TX6) (N := 26) (ci := 5) (q0 := 0) (rest := []) C 15 (c_X6_no l D cI adK adV ad m_left m_bites m_many m_imageLeft m_imageBites m_imageMany m_wasLeft m_wasBites m_wasMany m_hasImage m_letterMany m_rowMany m_place m_seed m_kind m_figure m_imageKind m_imageFigure m_wasKind m_wasFigure m_letters m_row m_refused m_numbers m_counted m_few (-2 : Int32) r178 q179) (gV uu1070 uu1072 uu1571 uu6 uu1073) hd_X6_no rfl ⟨rfl, rfl⟩ ⟨Nat.le_of_ble_eq_true rfl, Nat.le_of_ble_eq_true rfl⟩ ⟨Nat.le_of_ble_eq_true rfl, Nat.le_of_ble_eq_true rfl⟩ rfl rfl rfl (Nat.le_of_ble_eq_true rfl) rfl dX6_ways_12 (fun _ => ?_)
    obtain rfl := Option.some.inj hf
    exact s_iret C (fun i => i) hr hlk rfl rfl dX6_ways_15


theorem hd_X6_alike : yX6_alike.cls = RX6 ∧ yX6_alike.cls ≠ "java/lang/invoke/MethodHandle" ∧ yX6_alike.cls ≠ "java/lang/invoke/VarHandle" ∧ (parseMethodDescriptor yX6_alike.desc).map (fun d => d.parameters.length) = some 1 := by decide +kernel
set_option maxHeartbeats 4000000 in
set_option maxRecDepth 100000 in
theorem c_X6_alike (l : Launch) (D : va_G) (cI : ClassId) (adK adV : Nat → Nat) (ad : Nat → Nat) (m_left : Int32) (m_bites : Int32) (m_many : Int32) (m_imageLeft : Int32) (m_imageBites : Int32) (m_imageMany : Int32) (m_wasLeft : Int32) (m_wasBites : Int32) (m_wasMany : Int32) (m_hasImage : Int32) (m_letterMany : Int32) (m_rowMany : Int32) (m_place : Int32) (m_seed : Int32) (m_kind : (Nat → Int32)) (m_figure : (Nat → Int32)) (m_imageKind : (Nat → Int32)) (m_imageFigure : (Nat → Int32)) (m_wasKind : (Nat → Int32)) (m_wasFigure : (Nat → Int32)) (m_letters : (Nat → Int32)) (m_row : (Nat → Int32)) (m_refused : (Nat → Int32)) (m_numbers : (Nat → Int32)) (m_counted : (Nat → Int32)) (m_few : (Nat → Int32)) (a1 : Int32) (o : Int32 × (Nat → Int32)) (hf : f_X6_alike m_left m_refused a1 = some o) : Ct l D cI adK adV yX6_alike (wy yX6_alike cX6_alike 4 (some .int)) { frames := 2, cells := 0, slots := 0, locals := 45 } 0 0 [.ref (ad 0), .int a1] (wM ad cI m_left m_bites m_many m_imageLeft m_imageBites m_imageMany m_wasLeft m_wasBites m_wasMany m_hasImage m_letterMany m_rowMany m_place m_seed m_kind m_figure m_imageKind m_imageFigure m_wasKind m_wasFigure m_letters m_row m_refused m_numbers m_counted m_few) (fun _ => (wM ad cI m_left m_bites m_many m_imageLeft m_imageBites m_imageMany m_wasLeft m_wasBites m_wasMany m_hasImage m_letterMany m_rowMany m_place m_seed m_kind m_figure m_imageKind m_imageFigure m_wasKind m_wasFigure m_letters m_row o.2 m_numbers m_counted m_few)) (some (.int o.1)) := by
  refine Ct.of (cc := cX6_alike) (nL := 4) (ret := (some .int)) (own := RX6) (by decide) (Nat.le_of_ble_eq_true rfl) rfl ?_
  intro p e s m args below meth c A C hr hlk hnm
  refine s_lv (lv1 := [(0, .ref (ad 0)), (1, .int a1)]) [0, 1] rfl ?_
  unfold f_X6_alike at hf
  refine s_iload_n C 1 1 rfl dX6_alike_0 rfl ?_
  refine s_iconst C 2 rfl dX6_alike_1 ic_0 ?_
  refine s_iconst C 3 rfl dX6_alike_2 ic_1 ?_
  obtain ⟨r1, q2, hf⟩ := bn_s hf
  refine s_callS0 (host := "") (rest := []) C 6 (c_X6_isIn l D cI adK adV a1 (0 : Int32) (1 : Int32) r1 q2) (gS uu1106 uu1108 uu6 uu1109) hd_X6_isIn rfl ⟨rfl, rfl⟩ ⟨Nat.le_of_ble_eq_true rfl, Nat.le_of_ble_eq_true rfl⟩ ⟨Nat.le_of_ble_eq_true rfl, Nat.le_of_ble_eq_true rfl⟩ rfl (Nat.le_of_ble_eq_true rfl) rfl dX6_alike_3 ?_
  refine s_if_ne C 16 9 rfl dX6_alike_6 rfl (fun hc26 => ?_) (fun hc26 => ?_)
  · replace hf := ite_f hc26 hf
    refine s_aload_n C 17 0 rfl dX6_alike_16 rfl ?_
    refine s_get (C1 := RX6) (T := TX6) (N := 26) (ci := 5) C 20 0 0 uX6 rfl rfl (Nat.le_of_ble_eq_true rfl) uu986 rfl rfl rfl dX6_alike_17 ?_
    refine s_istore_n (lv1 := [(2, .int m_left), (0, .ref (ad 0)), (1, .int a1)]) C 21 2 rfl dX6_alike_20 rfl (Nat.le_of_ble_eq_true rfl) rfl ?_
    refine s_iconst C 22 rfl dX6_alike_21 ic_1 ?_
    refine s_istore_n (lv1 := [(3, .int (1 : Int32)), (2, .int m_left), (0, .ref (ad 0)), (1, .int a1)]) C 23 3 rfl dX6_alike_22 rfl (Nat.le_of_ble_eq_true rfl) rfl ?_
    refine s_lv (lv1 := [(0, .ref (ad 0)), (1, .int a1), (2, .int m_left), (3, .int (1 : Int32))]) [2, 3, 1, 0] rfl ?_
    refine s_kont (γ := Int32) (o := o) (fun KQ => f_X6_alike_23 m_left KQ 1000 m_left (1 : Int32) = some o) 47 (fun e9 => [(0, .ref (ad 0)), (1, .int a1), (2, .int e9)]) (fun e9 => []) (fun e9 => (wM ad cI m_left m_bites m_many m_imageLeft m_imageBites m_imageMany m_wasLeft m_wasBites m_wasMany m_hasImage m_letterMany m_rowMany m_place m_seed m_kind m_figure m_imageKind m_imageFigure m_wasKind m_wasFigure m_letters m_row m_refused m_numbers m_counted m_few)) hf (fun e9 hf => ?_) (fun k8 hk8 hf => ?_)
    · refine s_iload_n C 48 1 rfl dX6_alike_47 rfl ?_
      refine s_iconst C 49 rfl dX6_alike_48 ic_1 ?_
      refine s_icmp_ne C 54 52 rfl dX6_alike_49 rfl (fun hc16 => ?_) (fun hc16 => ?_)
      · replace hf := ite_f hc16 hf
        refine s_aload_n C 55 0 rfl dX6_alike_54 rfl ?_
        refine s_get (C1 := RX6) (T := TX6) (N := 26) (ci := 5) C 58 0 0 uX6 rfl rfl (Nat.le_of_ble_eq_true rfl) uu986 rfl rfl rfl dX6_alike_55 ?_
        refine s_iconst C 59 rfl dX6_alike_58 ic_1 ?_
        obtain ⟨r10, q11, hf⟩ := bn_s hf
        refine s_callS0 (host := "") (rest := []) C 62 (c_X6_turnedBy l D cI adK adV m_left (1 : Int32) r10 q11) (gS uu1146 uu1148 uu6 uu1149) hd_X6_turnedBy rfl ⟨rfl, rfl⟩ ⟨Nat.le_of_ble_eq_true rfl, Nat.le_of_ble_eq_true rfl⟩ ⟨Nat.le_of_ble_eq_true rfl, Nat.le_of_ble_eq_true rfl⟩ rfl (Nat.le_of_ble_eq_true rfl) rfl dX6_alike_59 ?_
        refine s_aload_n C 63 0 rfl dX6_alike_62 rfl ?_
        refine s_get (C1 := RX6) (T := TX6) (N := 26) (ci := 5) C 66 0 0 uX6 rfl rfl (Nat.le_of_ble_eq_true rfl) uu986 rfl rfl rfl dX6_alike_63 ?_
        refine s_icmp_ne C 73 69 rfl dX6_alike_66 rfl (fun hc15 => ?_) (fun hc15 => ?_)
        · replace hf := ite_f hc15 hf
          refine s_aload_n C 74 0 rfl dX6_alike_73 rfl ?_
          refine s_get (C1 := RX6) (T := TX6) (N := 26) (ci := 5) C 77 0 0 uX6 rfl rfl (Nat.le_of_ble_eq_true rfl) uu986 rfl rfl rfl dX6_alike_74 ?_
          refine s_iconst C 78 rfl dX6_alike_77 ic_2 ?_
          obtain ⟨r12, q13, hf⟩ := bn_s hf
          refine s_callS0 (host := "") (rest := []) C 81 (c_X6_turnedBy l D cI adK adV m_left (2 : Int32) r12 q13) (gS uu1146 uu1148 uu6 uu1149) hd_X6_turnedBy rfl ⟨rfl, rfl⟩ ⟨Nat.le_of_ble_eq_true rfl, Nat.le_of_ble_eq_true rfl⟩ ⟨Nat.le_of_ble_eq_true rfl, Nat.le_of_ble_eq_true rfl⟩ rfl (Nat.le_of_ble_eq_true rfl) rfl dX6_alike_78 ?_
          refine s_aload_n C 82 0 rfl dX6_alike_81 rfl ?_
          refine s_get (C1 := RX6) (T := TX6) (N := 26) (ci := 5) C 85 0 0 uX6 rfl rfl (Nat.le_of_ble_eq_true rfl) uu986 rfl rfl rfl dX6_alike_82 ?_
          refine s_icmp_ne C 92 88 rfl dX6_alike_85 rfl (fun hc14 => ?_) (fun hc14 => ?_)
          · replace hf := ite_f hc14 hf
            refine s_iconst C 93 rfl dX6_alike_92 ic_4 ?_
            obtain rfl := Option.some.inj hf
            exact s_iret C (fun i => i) hr hlk rfl rfl dX6_alike_93
          · replace hf := ite_t hc14 hf
            refine s_iconst C 89 rfl dX6_alike_88 ic_2 ?_
            refine s_goto C 93 dX6_alike_89 rfl ?_
            obtain rfl := Option.some.inj hf
            exact s_iret C (fun i => i) hr hlk rfl rfl dX6_alike_93
        · replace hf := ite_t hc15 hf
          refine s_iconst C 70 rfl dX6_alike_69 ic_1 ?_
          refine s_goto C 93 dX6_alike_70 rfl ?_
          obtain rfl := Option.some.inj hf
          exact s_iret C (fun i => i) hr hlk rfl rfl dX6_alike_93
      · replace hf := ite_t hc16 hf
        refine s_iload_n C 53 2 rfl dX6_alike_52 rfl ?_
        obtain rfl := Option.some.inj hf
        exact s_iret C (fun i => i) hr hlk rfl rfl dX6_alike_53
    · skip
      refine s_loop (α := Int32 × Int32) (fun n v17 => f_X6_alike_23 m_left k8 n v17.1 v17.2) 23 (fun v17 => [(0, .ref (ad 0)), (1, .int a1), (2, .int v17.1), (3, .int v17.2)]) (fun v17 => (wM ad cI m_left m_bites m_many m_imageLeft m_imageBites m_imageMany m_wasLeft m_wasBites m_wasMany m_hasImage m_letterMany m_rowMany m_place m_seed m_kind m_figure m_imageKind m_imageFigure m_wasKind m_wasFigure m_letters m_row m_refused m_numbers m_counted m_few)) 1000 (m_left, (1 : Int32)) hf (fun v17 hf => by simp only [f_X6_alike_23] at hf; exact absurd hf (by simp)) (fun n ih18 v17 hf => ?_)
      replace hf := (f_X6_alike_23_s _ _ _ _ _).symm.trans hf
      refine s_iload_n C 24 3 rfl dX6_alike_23 rfl ?_
      refine s_iconst C 25 rfl dX6_alike_24 ic_4 ?_
      refine s_icmp_ge C 47 28 rfl dX6_alike_25 rfl (fun hc23 => ?_) (fun hc23 => ?_)
      · replace hf := ite_t hc23 hf
        exact s_lv [0, 1, 2] rfl (hk8 (v17.1 : Int32) hf)
      · replace hf := ite_f hc23 hf
        refine s_iload_n C 29 2 rfl dX6_alike_28 rfl ?_
        refine s_aload_n C 30 0 rfl dX6_alike_29 rfl ?_
        refine s_get (C1 := RX6) (T := TX6) (N := 26) (ci := 5) C 33 0 0 uX6 rfl rfl (Nat.le_of_ble_eq_true rfl) uu986 rfl rfl rfl dX6_alike_30 ?_
        refine s_iload_n C 34 3 rfl dX6_alike_33 rfl ?_
        obtain ⟨r19, q20, hf⟩ := bn_s hf
        refine s_callS0 (host := "") (rest := [.int v17.1]) C 37 (c_X6_turnedBy l D cI adK adV m_left v17.2 r19 q20) (gS uu1146 uu1148 uu6 uu1149) hd_X6_turnedBy rfl ⟨rfl, rfl⟩ ⟨Nat.le_of_ble_eq_true rfl, Nat.le_of_ble_eq_true rfl⟩ ⟨Nat.le_of_ble_eq_true rfl, Nat.le_of_ble_eq_true rfl⟩ rfl (Nat.le_of_ble_eq_true rfl) rfl dX6_alike_34 ?_
        obtain ⟨r21, q22, hf⟩ := bn_s hf
        refine s_callS0 (host := "") (rest := []) C 40 (c_X6_least l D cI adK adV v17.1 r19 r21 q22) (gS uu1141 uu1143 uu6 uu1144) hd_X6_least rfl ⟨rfl, rfl⟩ ⟨Nat.le_of_ble_eq_true rfl, Nat.le_of_ble_eq_true rfl⟩ ⟨Nat.le_of_ble_eq_true rfl, Nat.le_of_ble_eq_true rfl⟩ rfl (Nat.le_of_ble_eq_true rfl) rfl dX6_alike_37 ?_
        refine s_istore_n (lv1 := [(2, .int r21), (0, .ref (ad 0)), (1, .int a1), (3, .int v17.2)]) C 41 2 rfl dX6_alike_40 rfl (Nat.le_of_ble_eq_true rfl) rfl ?_
        refine s_iinc (lv1 := [(3, .int (v17.2 + (1 : Int32))), (2, .int r21), (0, .ref (ad 0)), (1, .int a1)]) C 44 3 3 rfl dX6_alike_41 rfl ic_1 (Nat.le_of_ble_eq_true rfl) rfl ?_
        refine s_goto C 23 dX6_alike_44 rfl ?_
        exact s_lv [2, 3, 1, 0] rfl (ih18 ((r21, v17.2 + (1 : Int32)) : Int32 × Int32) hf)
  · replace hf := ite_t hc26 hf
    refine s_aload_n C 10 0 rfl dX6_alike_9 rfl ?_
    refine s_bipush C 12 rfl dX6_alike_10 bp_m2 ?_
    obtain ⟨r24, q25, hf⟩ := bn_s hf
    refine s_callW (T := TX6) (N := 26) (ci := 5) (q0 := 0) (rest := []) C 15 (c_X6_no l D cI adK adV ad m_left m_bites m_many m_imageLeft m_imageBites m_imageMany m_wasLeft m_wasBites m_wasMany m_hasImage m_letterMany m_rowMany m_place m_seed m_kind m_figure m_imageKind m_imageFigure m_wasKind m_wasFigure m_letters m_row m_refused m_numbers m_counted m_few (-2 : Int32) r24 q25) (gV uu1070 uu1072 uu1571 uu6 uu1073) hd_X6_no rfl ⟨rfl, rfl⟩ ⟨Nat.le_of_ble_eq_true rfl, Nat.le_of_ble_eq_true rfl⟩ ⟨Nat.le_of_ble_eq_true rfl, Nat.le_of_ble_eq_true rfl⟩ rfl rfl rfl (Nat.le_of_ble_eq_true rfl) rfl dX6_alike_12 (fun _ => ?_)
    obtain rfl := Option.some.inj hf
    exact s_iret C (fun i => i) hr hlk rfl rfl dX6_alike_15


theorem hd_X6_settles : yX6_settles.cls = RX6 ∧ yX6_settles.cls ≠ "java/lang/invoke/MethodHandle" ∧ yX6_settles.cls ≠ "java/lang/invoke/VarHandle" ∧ (parseMethodDescriptor yX6_settles.desc).map (fun d => d.parameters.length) = some 1 := by decide +kernel
set_option maxHeartbeats 4000000 in
set_option maxRecDepth 100000 in
theorem c_X6_settles (l : Launch) (D : va_G) (cI : ClassId) (adK adV : Nat → Nat) (ad : Nat → Nat) (m_left : Int32) (m_bites : Int32) (m_many : Int32) (m_imageLeft : Int32) (m_imageBites : Int32) (m_imageMany : Int32) (m_wasLeft : Int32) (m_wasBites : Int32) (m_wasMany : Int32) (m_hasImage : Int32) (m_letterMany : Int32) (m_rowMany : Int32) (m_place : Int32) (m_seed : Int32) (m_kind : (Nat → Int32)) (m_figure : (Nat → Int32)) (m_imageKind : (Nat → Int32)) (m_imageFigure : (Nat → Int32)) (m_wasKind : (Nat → Int32)) (m_wasFigure : (Nat → Int32)) (m_letters : (Nat → Int32)) (m_row : (Nat → Int32)) (m_refused : (Nat → Int32)) (m_numbers : (Nat → Int32)) (m_counted : (Nat → Int32)) (m_few : (Nat → Int32)) (a1 : Int32) (o : Int32 × (Nat → Int32)) (hf : f_X6_settles m_left m_refused a1 = some o) : Ct l D cI adK adV yX6_settles (wy yX6_settles cX6_settles 4 (some .int)) { frames := 3, cells := 0, slots := 0, locals := 69 } 0 0 [.ref (ad 0), .int a1] (wM ad cI m_left m_bites m_many m_imageLeft m_imageBites m_imageMany m_wasLeft m_wasBites m_wasMany m_hasImage m_letterMany m_rowMany m_place m_seed m_kind m_figure m_imageKind m_imageFigure m_wasKind m_wasFigure m_letters m_row m_refused m_numbers m_counted m_few) (fun _ => (wM ad cI m_left m_bites m_many m_imageLeft m_imageBites m_imageMany m_wasLeft m_wasBites m_wasMany m_hasImage m_letterMany m_rowMany m_place m_seed m_kind m_figure m_imageKind m_imageFigure m_wasKind m_wasFigure m_letters m_row o.2 m_numbers m_counted m_few)) (some (.int o.1)) := by
  refine Ct.of (cc := cX6_settles) (nL := 4) (ret := (some .int)) (own := RX6) (by decide) (Nat.le_of_ble_eq_true rfl) rfl ?_
  intro p e s m args below meth c A C hr hlk hnm
  refine s_lv (lv1 := [(0, .ref (ad 0)), (1, .int a1)]) [0, 1] rfl ?_
  unfold f_X6_settles at hf
  refine s_iload_n C 1 1 rfl dX6_settles_0 rfl ?_
  refine s_iconst C 2 rfl dX6_settles_1 ic_0 ?_
  refine s_iconst C 3 rfl dX6_settles_2 ic_1 ?_
  obtain ⟨r1, q2, hf⟩ := bn_s hf
  refine s_callS0 (host := "") (rest := []) C 6 (c_X6_isIn l D cI adK adV a1 (0 : Int32) (1 : Int32) r1 q2) (gS uu1106 uu1108 uu6 uu1109) hd_X6_isIn rfl ⟨rfl, rfl⟩ ⟨Nat.le_of_ble_eq_true rfl, Nat.le_of_ble_eq_true rfl⟩ ⟨Nat.le_of_ble_eq_true rfl, Nat.le_of_ble_eq_true rfl⟩ rfl (Nat.le_of_ble_eq_true rfl) rfl dX6_settles_3 ?_
  refine s_if_ne C 16 9 rfl dX6_settles_6 rfl (fun hc79 => ?_) (fun hc79 => ?_)
  · replace hf := ite_f hc79 hf
    refine s_aload_n C 17 0 rfl dX6_settles_16 rfl ?_
    refine s_get (C1 := RX6) (T := TX6) (N := 26) (ci := 5) C 20 0 0 uX6 rfl rfl (Nat.le_of_ble_eq_true rfl) uu986 rfl rfl rfl dX6_settles_17 ?_
    obtain ⟨r3, q4, hf⟩ := bn_s hf
    refine s_callS0 (host := "") (rest := []) C 23 (c_X6_deed l D cI adK adV m_left r3 q4) (gS uu1208 uu1210 uu6 uu1211) hd_X6_deed rfl ⟨rfl, rfl⟩ ⟨Nat.le_of_ble_eq_true rfl, Nat.le_of_ble_eq_true rfl⟩ ⟨Nat.le_of_ble_eq_true rfl, Nat.le_of_ble_eq_true rfl⟩ rfl (Nat.le_of_ble_eq_true rfl) rfl dX6_settles_20 ?_
    refine s_if_eq C 37 26 rfl dX6_settles_23 rfl (fun hc76 => ?_) (fun hc76 => ?_)
    · replace hf := ite_t hc76 hf
      refine s_iconst C 38 rfl dX6_settles_37 ic_0 ?_
      refine s_istore_n (lv1 := [(2, .int (0 : Int32)), (0, .ref (ad 0)), (1, .int a1)]) C 39 2 rfl dX6_settles_38 rfl (Nat.le_of_ble_eq_true rfl) rfl ?_
      refine s_lv (lv1 := [(0, .ref (ad 0)), (1, .int a1), (2, .int (0 : Int32))]) [1, 2, 0] rfl ?_
      refine s_kont (γ := Int32) (o := o) (fun KQ => f_X6_settles_39 m_left KQ _ 1000 (0 : Int32) = some o) 72 (fun e14 => [(1, .int a1), (2, .int e14)]) (fun e14 => []) (fun e14 => (wM ad cI m_left m_bites m_many m_imageLeft m_imageBites m_imageMany m_wasLeft m_wasBites m_wasMany m_hasImage m_letterMany m_rowMany m_place m_seed m_kind m_figure m_imageKind m_imageFigure m_wasKind m_wasFigure m_letters m_row m_refused m_numbers m_counted m_few)) hf (fun e14 hf => ?_) (fun k12 hk12 hf => ?_)
      · refine s_iload_n C 73 0 rfl dX6_settles_72 rfl ?_
        refine s_if_ne C 80 76 rfl dX6_settles_73 rfl (fun hc15 => ?_) (fun hc15 => ?_)
        · replace hf := ite_f hc15 hf
          refine s_iload_n C 81 1 rfl dX6_settles_80 rfl ?_
          obtain rfl := Option.some.inj hf
          exact s_iret C (fun i => i) hr hlk rfl rfl dX6_settles_81
        · replace hf := ite_t hc15 hf
          refine s_iconst C 77 rfl dX6_settles_76 ic_1 ?_
          refine s_goto C 81 dX6_settles_77 rfl ?_
          obtain rfl := Option.some.inj hf
          exact s_iret C (fun i => i) hr hlk rfl rfl dX6_settles_81
      · skip
        refine s_kont (γ := Unit) (o := o) (fun KQ => f_X6_settles_39 m_left k12 KQ 1000 (0 : Int32) = some o) 88 (fun e16 => [(0, .ref (ad 0)), (1, .int a1)]) (fun e16 => []) (fun e16 => (wM ad cI m_left m_bites m_many m_imageLeft m_imageBites m_imageMany m_wasLeft m_wasBites m_wasMany m_hasImage m_letterMany m_rowMany m_place m_seed m_kind m_figure m_imageKind m_imageFigure m_wasKind m_wasFigure m_letters m_row m_refused m_numbers m_counted m_few)) hf (fun e16 hf => ?_) (fun k13 hk13 hf => ?_)
        · refine s_iconst C 89 rfl dX6_settles_88 ic_0 ?_
          refine s_istore_n (lv1 := [(2, .int (0 : Int32)), (0, .ref (ad 0)), (1, .int a1)]) C 90 2 rfl dX6_settles_89 rfl (Nat.le_of_ble_eq_true rfl) rfl ?_
          refine s_lv (lv1 := [(0, .ref (ad 0)), (1, .int a1), (2, .int (0 : Int32))]) [1, 2, 0] rfl ?_
          refine s_kont (γ := Int32) (o := o) (fun KQ => f_X6_settles_90 m_left m_refused KQ 1000 (0 : Int32) = some o) 150 (fun e45 => [(1, .int a1), (2, .int e45)]) (fun e45 => []) (fun e45 => (wM ad cI m_left m_bites m_many m_imageLeft m_imageBites m_imageMany m_wasLeft m_wasBites m_wasMany m_hasImage m_letterMany m_rowMany m_place m_seed m_kind m_figure m_imageKind m_imageFigure m_wasKind m_wasFigure m_letters m_row m_refused m_numbers m_counted m_few)) hf (fun e45 hf => ?_) (fun k44 hk44 hf => ?_)
          · refine s_iload_n C 151 0 rfl dX6_settles_150 rfl ?_
            refine s_if_ne C 158 154 rfl dX6_settles_151 rfl (fun hc46 => ?_) (fun hc46 => ?_)
            · replace hf := ite_f hc46 hf
              refine s_iload_n C 159 1 rfl dX6_settles_158 rfl ?_
              obtain rfl := Option.some.inj hf
              exact s_iret C (fun i => i) hr hlk rfl rfl dX6_settles_159
            · replace hf := ite_t hc46 hf
              refine s_iconst C 155 rfl dX6_settles_154 ic_2 ?_
              refine s_goto C 159 dX6_settles_155 rfl ?_
              obtain rfl := Option.some.inj hf
              exact s_iret C (fun i => i) hr hlk rfl rfl dX6_settles_159
          · skip
            refine s_loop (α := Int32) (fun n v47 => f_X6_settles_90 m_left m_refused k44 n v47) 90 (fun v47 => [(0, .ref (ad 0)), (1, .int a1), (2, .int v47)]) (fun v47 => (wM ad cI m_left m_bites m_many m_imageLeft m_imageBites m_imageMany m_wasLeft m_wasBites m_wasMany m_hasImage m_letterMany m_rowMany m_place m_seed m_kind m_figure m_imageKind m_imageFigure m_wasKind m_wasFigure m_letters m_row m_refused m_numbers m_counted m_few)) 1000 (0 : Int32) hf (fun v47 hf => by simp only [f_X6_settles_90] at hf; exact absurd hf (by simp)) (fun n ih48 v47 hf => ?_)
            replace hf := (f_X6_settles_90_s _ _ _ _ _).symm.trans hf
            refine s_iload_n C 91 2 rfl dX6_settles_90 rfl ?_
            refine s_bipush C 93 rfl dX6_settles_91 bp_25 ?_
            refine s_icmp_ge C 172 96 rfl dX6_settles_93 rfl (fun hc65 => ?_) (fun hc65 => ?_)
            · replace hf := ite_t hc65 hf
              refine s_bipush C 174 rfl dX6_settles_172 bp_m9 ?_
              obtain rfl := Option.some.inj hf
              exact s_iret C (fun i => i) hr hlk rfl rfl dX6_settles_174
            · replace hf := ite_f hc65 hf
              refine s_iload_n C 97 2 rfl dX6_settles_96 rfl ?_
              refine s_iconst C 98 rfl dX6_settles_97 ic_1 ?_
              refine s_iadd C 99 rfl dX6_settles_98 ?_
              refine s_istore_n (lv1 := [(3, .int (v47 + (1 : Int32))), (0, .ref (ad 0)), (1, .int a1), (2, .int v47)]) C 100 3 rfl dX6_settles_99 rfl (Nat.le_of_ble_eq_true rfl) rfl ?_
              refine s_lv (lv1 := [(0, .ref (ad 0)), (1, .int a1), (2, .int v47), (3, .int (v47 + (1 : Int32)))]) [1, 2, 3, 0] rfl ?_
              refine s_kont (γ := Unit) (o := o) (fun KQ => f_X6_settles_100 v47 m_left KQ _ 1000 (v47 + (1 : Int32)) = some o) 150 (fun e51 => [(1, .int a1), (2, .int v47)]) (fun e51 => []) (fun e51 => (wM ad cI m_left m_bites m_many m_imageLeft m_imageBites m_imageMany m_wasLeft m_wasBites m_wasMany m_hasImage m_letterMany m_rowMany m_place m_seed m_kind m_figure m_imageKind m_imageFigure m_wasKind m_wasFigure m_letters m_row m_refused m_numbers m_counted m_few)) hf (fun e51 hf => ?_) (fun k49 hk49 hf => ?_)
              · exact s_lv [0, 1] rfl (hk44 (v47 : Int32) hf)
              · skip
                refine s_kont (γ := Unit) (o := o) (fun KQ => f_X6_settles_100 v47 m_left k49 KQ 1000 (v47 + (1 : Int32)) = some o) 166 (fun e52 => [(0, .ref (ad 0)), (1, .int a1), (2, .int v47)]) (fun e52 => []) (fun e52 => (wM ad cI m_left m_bites m_many m_imageLeft m_imageBites m_imageMany m_wasLeft m_wasBites m_wasMany m_hasImage m_letterMany m_rowMany m_place m_seed m_kind m_figure m_imageKind m_imageFigure m_wasKind m_wasFigure m_letters m_row m_refused m_numbers m_counted m_few)) hf (fun e52 hf => ?_) (fun k50 hk50 hf => ?_)
                · refine s_iinc (lv1 := [(2, .int (v47 + (1 : Int32))), (0, .ref (ad 0)), (1, .int a1)]) C 169 2 2 rfl dX6_settles_166 rfl ic_1 (Nat.le_of_ble_eq_true rfl) rfl ?_
                  refine s_goto C 90 dX6_settles_169 rfl ?_
                  exact s_lv [1, 2, 0] rfl (ih48 (v47 + (1 : Int32) : Int32) hf)
                · skip
                  refine s_loop (α := Int32) (fun n v53 => f_X6_settles_100 v47 m_left k49 k50 n v53) 100 (fun v53 => [(0, .ref (ad 0)), (1, .int a1), (2, .int v47), (3, .int v53)]) (fun v53 => (wM ad cI m_left m_bites m_many m_imageLeft m_imageBites m_imageMany m_wasLeft m_wasBites m_wasMany m_hasImage m_letterMany m_rowMany m_place m_seed m_kind m_figure m_imageKind m_imageFigure m_wasKind m_wasFigure m_letters m_row m_refused m_numbers m_counted m_few)) 1000 (v47 + (1 : Int32)) hf (fun v53 hf => by simp only [f_X6_settles_100] at hf; exact absurd hf (by simp)) (fun n ih54 v53 hf => ?_)
                  replace hf := (f_X6_settles_100_s _ _ _ _ _ _).symm.trans hf
                  refine s_iload_n C 101 3 rfl dX6_settles_100 rfl ?_
                  refine s_bipush C 103 rfl dX6_settles_101 bp_25 ?_
                  refine s_icmp_ge C 166 106 rfl dX6_settles_103 rfl (fun hc64 => ?_) (fun hc64 => ?_)
                  · replace hf := ite_t hc64 hf
                    exact s_lv [0, 1, 2] rfl (hk50 (() : Unit) hf)
                  · replace hf := ite_f hc64 hf
                    refine s_aload_n C 107 0 rfl dX6_settles_106 rfl ?_
                    refine s_get (C1 := RX6) (T := TX6) (N := 26) (ci := 5) C 110 0 0 uX6 rfl rfl (Nat.le_of_ble_eq_true rfl) uu986 rfl rfl rfl dX6_settles_107 ?_
                    refine s_iload_n C 111 2 rfl dX6_settles_110 rfl ?_
                    obtain ⟨r55, q56, hf⟩ := bn_s hf
                    refine s_callS0 (host := "") (rest := []) C 114 (c_X6_has l D cI adK adV m_left v47 r55 q56) (gS uu1218 uu1220 uu6 uu1221) hd_X6_has rfl ⟨rfl, rfl⟩ ⟨Nat.le_of_ble_eq_true rfl, Nat.le_of_ble_eq_true rfl⟩ ⟨Nat.le_of_ble_eq_true rfl, Nat.le_of_ble_eq_true rfl⟩ rfl (Nat.le_of_ble_eq_true rfl) rfl dX6_settles_111 ?_
                    refine s_if_eq C 160 117 rfl dX6_settles_114 rfl (fun hc63 => ?_) (fun hc63 => ?_)
                    · replace hf := ite_t hc63 hf
                      refine s_iinc (lv1 := [(3, .int (v53 + (1 : Int32))), (0, .ref (ad 0)), (1, .int a1), (2, .int v47)]) C 163 3 3 rfl dX6_settles_160 rfl ic_1 (Nat.le_of_ble_eq_true rfl) rfl ?_
                      refine s_goto C 100 dX6_settles_163 rfl ?_
                      exact s_lv [1, 2, 3, 0] rfl (ih54 (v53 + (1 : Int32) : Int32) hf)
                    · replace hf := ite_f hc63 hf
                      refine s_aload_n C 118 0 rfl dX6_settles_117 rfl ?_
                      refine s_get (C1 := RX6) (T := TX6) (N := 26) (ci := 5) C 121 0 0 uX6 rfl rfl (Nat.le_of_ble_eq_true rfl) uu986 rfl rfl rfl dX6_settles_118 ?_
                      refine s_iload_n C 122 3 rfl dX6_settles_121 rfl ?_
                      obtain ⟨r57, q58, hf⟩ := bn_s hf
                      refine s_callS0 (host := "") (rest := []) C 125 (c_X6_has l D cI adK adV m_left v53 r57 q58) (gS uu1218 uu1220 uu6 uu1221) hd_X6_has rfl ⟨rfl, rfl⟩ ⟨Nat.le_of_ble_eq_true rfl, Nat.le_of_ble_eq_true rfl⟩ ⟨Nat.le_of_ble_eq_true rfl, Nat.le_of_ble_eq_true rfl⟩ rfl (Nat.le_of_ble_eq_true rfl) rfl dX6_settles_122 ?_
                      refine s_if_eq C 160 128 rfl dX6_settles_125 rfl (fun hc62 => ?_) (fun hc62 => ?_)
                      · replace hf := ite_t hc62 hf
                        refine s_iinc (lv1 := [(3, .int (v53 + (1 : Int32))), (0, .ref (ad 0)), (1, .int a1), (2, .int v47)]) C 163 3 3 rfl dX6_settles_160 rfl ic_1 (Nat.le_of_ble_eq_true rfl) rfl ?_
                        refine s_goto C 100 dX6_settles_163 rfl ?_
                        exact s_lv [1, 2, 3, 0] rfl (ih54 (v53 + (1 : Int32) : Int32) hf)
                      · replace hf := ite_f hc62 hf
                        refine s_aload_n C 129 0 rfl dX6_settles_128 rfl ?_
                        refine s_get (C1 := RX6) (T := TX6) (N := 26) (ci := 5) C 132 0 0 uX6 rfl rfl (Nat.le_of_ble_eq_true rfl) uu986 rfl rfl rfl dX6_settles_129 ?_
                        refine s_iconst C 133 rfl dX6_settles_132 ic_1 ?_
                        refine s_iload_n C 134 2 rfl dX6_settles_133 rfl ?_
                        refine s_ishl C 135 rfl dX6_settles_134 ?_
                        refine s_iconst C 136 rfl dX6_settles_135 ic_m1 ?_
                        refine s_ixor C 137 rfl dX6_settles_136 ?_
                        refine s_iand C 138 rfl dX6_settles_137 ?_
                        refine s_iconst C 139 rfl dX6_settles_138 ic_1 ?_
                        refine s_iload_n C 140 3 rfl dX6_settles_139 rfl ?_
                        refine s_ishl C 141 rfl dX6_settles_140 ?_
                        refine s_iconst C 142 rfl dX6_settles_141 ic_m1 ?_
                        refine s_ixor C 143 rfl dX6_settles_142 ?_
                        refine s_iand C 144 rfl dX6_settles_143 ?_
                        obtain ⟨r59, q60, hf⟩ := bn_s hf
                        refine s_callS0 (host := "") (rest := []) C 147 (c_X6_deed l D cI adK adV ((m_left &&& ((jshl (1 : Int32) v47) ^^^ (-1 : Int32))) &&& ((jshl (1 : Int32) v53) ^^^ (-1 : Int32))) r59 q60) (gS uu1208 uu1210 uu6 uu1211) hd_X6_deed rfl ⟨rfl, rfl⟩ ⟨Nat.le_of_ble_eq_true rfl, Nat.le_of_ble_eq_true rfl⟩ ⟨Nat.le_of_ble_eq_true rfl, Nat.le_of_ble_eq_true rfl⟩ rfl (Nat.le_of_ble_eq_true rfl) rfl dX6_settles_144 ?_
                        refine s_if_eq C 160 150 rfl dX6_settles_147 rfl (fun hc61 => ?_) (fun hc61 => ?_)
                        · replace hf := ite_t hc61 hf
                          refine s_iinc (lv1 := [(3, .int (v53 + (1 : Int32))), (0, .ref (ad 0)), (1, .int a1), (2, .int v47)]) C 163 3 3 rfl dX6_settles_160 rfl ic_1 (Nat.le_of_ble_eq_true rfl) rfl ?_
                          refine s_goto C 100 dX6_settles_163 rfl ?_
                          exact s_lv [1, 2, 3, 0] rfl (ih54 (v53 + (1 : Int32) : Int32) hf)
                        · replace hf := ite_f hc61 hf
                          exact s_lv [1, 2] rfl (hk49 (() : Unit) hf)
        · skip
          refine s_loop (α := Int32) (fun n v66 => f_X6_settles_39 m_left k12 k13 n v66) 39 (fun v66 => [(0, .ref (ad 0)), (1, .int a1), (2, .int v66)]) (fun v66 => (wM ad cI m_left m_bites m_many m_imageLeft m_imageBites m_imageMany m_wasLeft m_wasBites m_wasMany m_hasImage m_letterMany m_rowMany m_place m_seed m_kind m_figure m_imageKind m_imageFigure m_wasKind m_wasFigure m_letters m_row m_refused m_numbers m_counted m_few)) 1000 (0 : Int32) hf (fun v66 hf => by simp only [f_X6_settles_39] at hf; exact absurd hf (by simp)) (fun n ih67 v66 hf => ?_)
          replace hf := (f_X6_settles_39_s _ _ _ _ _).symm.trans hf
          refine s_iload_n C 40 2 rfl dX6_settles_39 rfl ?_
          refine s_bipush C 42 rfl dX6_settles_40 bp_25 ?_
          refine s_icmp_ge C 88 45 rfl dX6_settles_42 rfl (fun hc74 => ?_) (fun hc74 => ?_)
          · replace hf := ite_t hc74 hf
            exact s_lv [0, 1] rfl (hk13 (() : Unit) hf)
          · replace hf := ite_f hc74 hf
            refine s_aload_n C 46 0 rfl dX6_settles_45 rfl ?_
            refine s_get (C1 := RX6) (T := TX6) (N := 26) (ci := 5) C 49 0 0 uX6 rfl rfl (Nat.le_of_ble_eq_true rfl) uu986 rfl rfl rfl dX6_settles_46 ?_
            refine s_iload_n C 50 2 rfl dX6_settles_49 rfl ?_
            obtain ⟨r68, q69, hf⟩ := bn_s hf
            refine s_callS0 (host := "") (rest := []) C 53 (c_X6_has l D cI adK adV m_left v66 r68 q69) (gS uu1218 uu1220 uu6 uu1221) hd_X6_has rfl ⟨rfl, rfl⟩ ⟨Nat.le_of_ble_eq_true rfl, Nat.le_of_ble_eq_true rfl⟩ ⟨Nat.le_of_ble_eq_true rfl, Nat.le_of_ble_eq_true rfl⟩ rfl (Nat.le_of_ble_eq_true rfl) rfl dX6_settles_50 ?_
            refine s_if_eq C 82 56 rfl dX6_settles_53 rfl (fun hc73 => ?_) (fun hc73 => ?_)
            · replace hf := ite_t hc73 hf
              refine s_iinc (lv1 := [(2, .int (v66 + (1 : Int32))), (0, .ref (ad 0)), (1, .int a1)]) C 85 2 2 rfl dX6_settles_82 rfl ic_1 (Nat.le_of_ble_eq_true rfl) rfl ?_
              refine s_goto C 39 dX6_settles_85 rfl ?_
              exact s_lv [1, 2, 0] rfl (ih67 (v66 + (1 : Int32) : Int32) hf)
            · replace hf := ite_f hc73 hf
              refine s_aload_n C 57 0 rfl dX6_settles_56 rfl ?_
              refine s_get (C1 := RX6) (T := TX6) (N := 26) (ci := 5) C 60 0 0 uX6 rfl rfl (Nat.le_of_ble_eq_true rfl) uu986 rfl rfl rfl dX6_settles_57 ?_
              refine s_iconst C 61 rfl dX6_settles_60 ic_1 ?_
              refine s_iload_n C 62 2 rfl dX6_settles_61 rfl ?_
              refine s_ishl C 63 rfl dX6_settles_62 ?_
              refine s_iconst C 64 rfl dX6_settles_63 ic_m1 ?_
              refine s_ixor C 65 rfl dX6_settles_64 ?_
              refine s_iand C 66 rfl dX6_settles_65 ?_
              obtain ⟨r70, q71, hf⟩ := bn_s hf
              refine s_callS0 (host := "") (rest := []) C 69 (c_X6_deed l D cI adK adV (m_left &&& ((jshl (1 : Int32) v66) ^^^ (-1 : Int32))) r70 q71) (gS uu1208 uu1210 uu6 uu1211) hd_X6_deed rfl ⟨rfl, rfl⟩ ⟨Nat.le_of_ble_eq_true rfl, Nat.le_of_ble_eq_true rfl⟩ ⟨Nat.le_of_ble_eq_true rfl, Nat.le_of_ble_eq_true rfl⟩ rfl (Nat.le_of_ble_eq_true rfl) rfl dX6_settles_66 ?_
              refine s_if_eq C 82 72 rfl dX6_settles_69 rfl (fun hc72 => ?_) (fun hc72 => ?_)
              · replace hf := ite_t hc72 hf
                refine s_iinc (lv1 := [(2, .int (v66 + (1 : Int32))), (0, .ref (ad 0)), (1, .int a1)]) C 85 2 2 rfl dX6_settles_82 rfl ic_1 (Nat.le_of_ble_eq_true rfl) rfl ?_
                refine s_goto C 39 dX6_settles_85 rfl ?_
                exact s_lv [1, 2, 0] rfl (ih67 (v66 + (1 : Int32) : Int32) hf)
              · replace hf := ite_f hc72 hf
                exact s_lv [1, 2] rfl (hk12 (v66 : Int32) hf)
    · replace hf := ite_f hc76 hf
      refine s_iload_n C 27 1 rfl dX6_settles_26 rfl ?_
      refine s_if_ne C 34 30 rfl dX6_settles_27 rfl (fun hc75 => ?_) (fun hc75 => ?_)
      · replace hf := ite_f hc75 hf
        refine s_bipush C 36 rfl dX6_settles_34 bp_m9 ?_
        obtain rfl := Option.some.inj hf
        exact s_iret C (fun i => i) hr hlk rfl rfl dX6_settles_36
      · replace hf := ite_t hc75 hf
        refine s_iconst C 31 rfl dX6_settles_30 ic_0 ?_
        refine s_goto C 36 dX6_settles_31 rfl ?_
        obtain rfl := Option.some.inj hf
        exact s_iret C (fun i => i) hr hlk rfl rfl dX6_settles_36
  · replace hf := ite_t hc79 hf
    refine s_aload_n C 10 0 rfl dX6_settles_9 rfl ?_
    refine s_bipush C 12 rfl dX6_settles_10 bp_m2 ?_
    obtain ⟨r77, q78, hf⟩ := bn_s hf
    refine s_callW (T := TX6) (N := 26) (ci := 5) (q0 := 0) (rest := []) C 15 (c_X6_no l D cI adK adV ad m_left m_bites m_many m_imageLeft m_imageBites m_imageMany m_wasLeft m_wasBites m_wasMany m_hasImage m_letterMany m_rowMany m_place m_seed m_kind m_figure m_imageKind m_imageFigure m_wasKind m_wasFigure m_letters m_row m_refused m_numbers m_counted m_few (-2 : Int32) r77 q78) (gV uu1070 uu1072 uu1571 uu6 uu1073) hd_X6_no rfl ⟨rfl, rfl⟩ ⟨Nat.le_of_ble_eq_true rfl, Nat.le_of_ble_eq_true rfl⟩ ⟨Nat.le_of_ble_eq_true rfl, Nat.le_of_ble_eq_true rfl⟩ rfl rfl rfl (Nat.le_of_ble_eq_true rfl) rfl dX6_settles_12 (fun _ => ?_)
    obtain rfl := Option.some.inj hf
    exact s_iret C (fun i => i) hr hlk rfl rfl dX6_settles_15


theorem hd_X6_pips : yX6_pips.cls = RX6 ∧ yX6_pips.cls ≠ "java/lang/invoke/MethodHandle" ∧ yX6_pips.cls ≠ "java/lang/invoke/VarHandle" ∧ (parseMethodDescriptor yX6_pips.desc).map (fun d => d.parameters.length) = some 1 := by decide +kernel
set_option maxHeartbeats 4000000 in
set_option maxRecDepth 100000 in
theorem c_X6_pips (l : Launch) (D : va_G) (cI : ClassId) (adK adV : Nat → Nat) (ad : Nat → Nat) (m_left : Int32) (m_bites : Int32) (m_many : Int32) (m_imageLeft : Int32) (m_imageBites : Int32) (m_imageMany : Int32) (m_wasLeft : Int32) (m_wasBites : Int32) (m_wasMany : Int32) (m_hasImage : Int32) (m_letterMany : Int32) (m_rowMany : Int32) (m_place : Int32) (m_seed : Int32) (m_kind : (Nat → Int32)) (m_figure : (Nat → Int32)) (m_imageKind : (Nat → Int32)) (m_imageFigure : (Nat → Int32)) (m_wasKind : (Nat → Int32)) (m_wasFigure : (Nat → Int32)) (m_letters : (Nat → Int32)) (m_row : (Nat → Int32)) (m_refused : (Nat → Int32)) (m_numbers : (Nat → Int32)) (m_counted : (Nat → Int32)) (m_few : (Nat → Int32)) (a1 : Int32) (o : Int32 × (Nat → Int32)) (hf : f_X6_pips m_left m_refused a1 = some o) : Ct l D cI adK adV yX6_pips (wy yX6_pips cX6_pips 2 (some .int)) { frames := 1, cells := 0, slots := 0, locals := 22 } 0 0 [.ref (ad 0), .int a1] (wM ad cI m_left m_bites m_many m_imageLeft m_imageBites m_imageMany m_wasLeft m_wasBites m_wasMany m_hasImage m_letterMany m_rowMany m_place m_seed m_kind m_figure m_imageKind m_imageFigure m_wasKind m_wasFigure m_letters m_row m_refused m_numbers m_counted m_few) (fun _ => (wM ad cI m_left m_bites m_many m_imageLeft m_imageBites m_imageMany m_wasLeft m_wasBites m_wasMany m_hasImage m_letterMany m_rowMany m_place m_seed m_kind m_figure m_imageKind m_imageFigure m_wasKind m_wasFigure m_letters m_row o.2 m_numbers m_counted m_few)) (some (.int o.1)) := by
  refine Ct.of (cc := cX6_pips) (nL := 2) (ret := (some .int)) (own := RX6) (by decide) (Nat.le_of_ble_eq_true rfl) rfl ?_
  intro p e s m args below meth c A C hr hlk hnm
  refine s_lv (lv1 := [(0, .ref (ad 0)), (1, .int a1)]) [0, 1] rfl ?_
  unfold f_X6_pips at hf
  refine s_iload_n C 1 1 rfl dX6_pips_0 rfl ?_
  refine s_if_ne C 18 4 rfl dX6_pips_1 rfl (fun hc6 => ?_) (fun hc6 => ?_)
  · replace hf := ite_f hc6 hf
    refine s_iload_n C 19 1 rfl dX6_pips_18 rfl ?_
    refine s_iconst C 20 rfl dX6_pips_19 ic_1 ?_
    refine s_icmp_ne C 34 23 rfl dX6_pips_20 rfl (fun hc3 => ?_) (fun hc3 => ?_)
    · replace hf := ite_f hc3 hf
      refine s_aload_n C 35 0 rfl dX6_pips_34 rfl ?_
      refine s_bipush C 37 rfl dX6_pips_35 bp_m2 ?_
      obtain ⟨r1, q2, hf⟩ := bn_s hf
      refine s_callW (T := TX6) (N := 26) (ci := 5) (q0 := 0) (rest := []) C 40 (c_X6_no l D cI adK adV ad m_left m_bites m_many m_imageLeft m_imageBites m_imageMany m_wasLeft m_wasBites m_wasMany m_hasImage m_letterMany m_rowMany m_place m_seed m_kind m_figure m_imageKind m_imageFigure m_wasKind m_wasFigure m_letters m_row m_refused m_numbers m_counted m_few (-2 : Int32) r1 q2) (gV uu1070 uu1072 uu1571 uu6 uu1073) hd_X6_no rfl ⟨rfl, rfl⟩ ⟨Nat.le_of_ble_eq_true rfl, Nat.le_of_ble_eq_true rfl⟩ ⟨Nat.le_of_ble_eq_true rfl, Nat.le_of_ble_eq_true rfl⟩ rfl rfl rfl (Nat.le_of_ble_eq_true rfl) rfl dX6_pips_37 (fun _ => ?_)
      obtain rfl := Option.some.inj hf
      exact s_iret C (fun i => i) hr hlk rfl rfl dX6_pips_40
    · replace hf := ite_t hc3 hf
      refine s_aload_n C 24 0 rfl dX6_pips_23 rfl ?_
      refine s_get (C1 := RX6) (T := TX6) (N := 26) (ci := 5) C 27 0 0 uX6 rfl rfl (Nat.le_of_ble_eq_true rfl) uu986 rfl rfl rfl dX6_pips_24 ?_
      refine s_iconst C 28 rfl dX6_pips_27 ic_2 ?_
      refine s_ishr C 29 rfl dX6_pips_28 ?_
      refine s_iconst C 30 rfl dX6_pips_29 ic_1 ?_
      refine s_iand C 31 rfl dX6_pips_30 ?_
      refine s_goto C 40 dX6_pips_31 rfl ?_
      obtain rfl := Option.some.inj hf
      exact s_iret C (fun i => i) hr hlk rfl rfl dX6_pips_40
  · replace hf := ite_t hc6 hf
    refine s_aload_n C 5 0 rfl dX6_pips_4 rfl ?_
    refine s_get (C1 := RX6) (T := TX6) (N := 26) (ci := 5) C 8 0 0 uX6 rfl rfl (Nat.le_of_ble_eq_true rfl) uu986 rfl rfl rfl dX6_pips_5 ?_
    refine s_sipush C 11 rfl dX6_pips_8 sp_14336 ?_
    refine s_iand C 12 rfl dX6_pips_11 ?_
    obtain ⟨r4, q5, hf⟩ := bn_s hf
    refine s_callS0 (host := "") (rest := []) C 15 (c_X6_bits l D cI adK adV (m_left &&& (14336 : Int32)) r4 q5) (gS uu1177 uu1179 uu6 uu1180) hd_X6_bits rfl ⟨rfl, rfl⟩ ⟨Nat.le_of_ble_eq_true rfl, Nat.le_of_ble_eq_true rfl⟩ ⟨Nat.le_of_ble_eq_true rfl, Nat.le_of_ble_eq_true rfl⟩ rfl (Nat.le_of_ble_eq_true rfl) rfl dX6_pips_12 ?_
    refine s_goto C 40 dX6_pips_15 rfl ?_
    obtain rfl := Option.some.inj hf
    exact s_iret C (fun i => i) hr hlk rfl rfl dX6_pips_40


theorem hd_X6_grudge : yX6_grudge.cls = RX6 ∧ yX6_grudge.cls ≠ "java/lang/invoke/MethodHandle" ∧ yX6_grudge.cls ≠ "java/lang/invoke/VarHandle" ∧ (parseMethodDescriptor yX6_grudge.desc).map (fun d => d.parameters.length) = some 1 := by decide +kernel
set_option maxHeartbeats 4000000 in
set_option maxRecDepth 100000 in
theorem c_X6_grudge (l : Launch) (D : va_G) (cI : ClassId) (adK adV : Nat → Nat) (ad : Nat → Nat) (m_left : Int32) (m_bites : Int32) (m_many : Int32) (m_imageLeft : Int32) (m_imageBites : Int32) (m_imageMany : Int32) (m_wasLeft : Int32) (m_wasBites : Int32) (m_wasMany : Int32) (m_hasImage : Int32) (m_letterMany : Int32) (m_rowMany : Int32) (m_place : Int32) (m_seed : Int32) (m_kind : (Nat → Int32)) (m_figure : (Nat → Int32)) (m_imageKind : (Nat → Int32)) (m_imageFigure : (Nat → Int32)) (m_wasKind : (Nat → Int32)) (m_wasFigure : (Nat → Int32)) (m_letters : (Nat → Int32)) (m_row : (Nat → Int32)) (m_refused : (Nat → Int32)) (m_numbers : (Nat → Int32)) (m_counted : (Nat → Int32)) (m_few : (Nat → Int32)) (a1 : Int32) (o : Int32 × (Nat → Int32)) (hf : f_X6_grudge m_left m_many m_kind m_figure m_refused a1 = some o) : Ct l D cI adK adV yX6_grudge (wy yX6_grudge cX6_grudge 6 (some .int)) { frames := 6, cells := 0, slots := 0, locals := 145 } 0 0 [.ref (ad 0), .int a1] (wM ad cI m_left m_bites m_many m_imageLeft m_imageBites m_imageMany m_wasLeft m_wasBites m_wasMany m_hasImage m_letterMany m_rowMany m_place m_seed m_kind m_figure m_imageKind m_imageFigure m_wasKind m_wasFigure m_letters m_row m_refused m_numbers m_counted m_few) (fun _ => (wM ad cI m_left m_bites m_many m_imageLeft m_imageBites m_imageMany m_wasLeft m_wasBites m_wasMany m_hasImage m_letterMany m_rowMany m_place m_seed m_kind m_figure m_imageKind m_imageFigure m_wasKind m_wasFigure m_letters m_row o.2 m_numbers m_counted m_few)) (some (.int o.1)) := by
  refine Ct.of (cc := cX6_grudge) (nL := 6) (ret := (some .int)) (own := RX6) (by decide) (Nat.le_of_ble_eq_true rfl) rfl ?_
  intro p e s m args below meth c A C hr hlk hnm
  refine s_lv (lv1 := [(0, .ref (ad 0)), (1, .int a1)]) [0, 1] rfl ?_
  unfold f_X6_grudge at hf
  refine s_aload_n C 1 0 rfl dX6_grudge_0 rfl ?_
  refine s_iload_n C 2 1 rfl dX6_grudge_1 rfl ?_
  obtain ⟨r1, q2, hf⟩ := bn_s hf
  refine s_callW (T := TX6) (N := 26) (ci := 5) (q0 := 0) (rest := []) C 5 (c_X6_isHeir l D cI adK adV ad m_left m_bites m_many m_imageLeft m_imageBites m_imageMany m_wasLeft m_wasBites m_wasMany m_hasImage m_letterMany m_rowMany m_place m_seed m_kind m_figure m_imageKind m_imageFigure m_wasKind m_wasFigure m_letters m_row m_refused m_numbers m_counted m_few a1 r1 q2) (gV uu1193 uu1195 uu1581 uu6 uu1196) hd_X6_isHeir rfl ⟨rfl, rfl⟩ ⟨Nat.le_of_ble_eq_true rfl, Nat.le_of_ble_eq_true rfl⟩ ⟨Nat.le_of_ble_eq_true rfl, Nat.le_of_ble_eq_true rfl⟩ rfl rfl rfl (Nat.le_of_ble_eq_true rfl) rfl dX6_grudge_2 (fun _ => ?_)
  refine s_if_ne C 14 8 rfl dX6_grudge_5 rfl (fun hc39 => ?_) (fun hc39 => ?_)
  · replace hf := ite_f hc39 hf
    refine s_bipush C 16 rfl dX6_grudge_14 bp_m9 ?_
    refine s_istore_n (lv1 := [(2, .int (-9 : Int32)), (0, .ref (ad 0)), (1, .int a1)]) C 17 2 rfl dX6_grudge_16 rfl (Nat.le_of_ble_eq_true rfl) rfl ?_
    refine s_ldc C 19 rfl dX6_grudge_17 uu1362 ?_
    refine s_istore_n (lv1 := [(3, .int (1000000000 : Int32)), (2, .int (-9 : Int32)), (0, .ref (ad 0)), (1, .int a1)]) C 20 3 rfl dX6_grudge_19 rfl (Nat.le_of_ble_eq_true rfl) rfl ?_
    refine s_iconst C 21 rfl dX6_grudge_20 ic_0 ?_
    refine s_istore (lv1 := [(4, .int (0 : Int32)), (3, .int (1000000000 : Int32)), (2, .int (-9 : Int32)), (0, .ref (ad 0)), (1, .int a1)]) C 23 4 rfl dX6_grudge_21 (Nat.le_of_ble_eq_true rfl) rfl ?_
    refine s_lv (lv1 := [(0, .ref (ad 0)), (1, .int a1), (2, .int (-9 : Int32)), (3, .int (1000000000 : Int32)), (4, .int (0 : Int32))]) [3, 4, 2, 1, 0] rfl ?_
    refine s_loop (α := Int32 × Int32 × Int32) (fun n v19 => f_X6_grudge_23 a1 m_left m_many m_kind m_figure m_refused n v19.1 v19.2.1 v19.2.2) 23 (fun v19 => [(0, .ref (ad 0)), (1, .int a1), (2, .int v19.1), (3, .int v19.2.1), (4, .int v19.2.2)]) (fun v19 => (wM ad cI m_left m_bites m_many m_imageLeft m_imageBites m_imageMany m_wasLeft m_wasBites m_wasMany m_hasImage m_letterMany m_rowMany m_place m_seed m_kind m_figure m_imageKind m_imageFigure m_wasKind m_wasFigure m_letters m_row m_refused m_numbers m_counted m_few)) 1000 ((-9 : Int32), (1000000000 : Int32), (0 : Int32)) hf (fun v19 hf => by simp only [f_X6_grudge_23] at hf; exact absurd hf (by simp)) (fun n ih20 v19 hf => ?_)
    replace hf := (f_X6_grudge_23_s _ _ _ _ _ _ _ _ _ _).symm.trans hf
    refine s_iload C 25 4 rfl dX6_grudge_23 rfl ?_
    refine s_aload_n C 26 0 rfl dX6_grudge_25 rfl ?_
    refine s_get (C1 := RX6) (T := TX6) (N := 26) (ci := 5) C 29 0 2 uX6 rfl rfl (Nat.le_of_ble_eq_true rfl) uu990 rfl rfl rfl dX6_grudge_26 ?_
    refine s_icmp_ge C 106 32 rfl dX6_grudge_29 rfl (fun hc36 => ?_) (fun hc36 => ?_)
    · replace hf := ite_t hc36 hf
      refine s_iload_n C 107 2 rfl dX6_grudge_106 rfl ?_
      obtain rfl := Option.some.inj hf
      exact s_iret C (fun i => i) hr hlk rfl rfl dX6_grudge_107
    · replace hf := ite_f hc36 hf
      refine s_iload C 34 4 rfl dX6_grudge_32 rfl ?_
      refine s_iload_n C 35 1 rfl dX6_grudge_34 rfl ?_
      refine s_bn (α := Int32) 54 (fun j21 => [(0, .ref (ad 0)), (1, .int a1), (2, .int v19.1), (3, .int v19.2.1), (4, .int v19.2.2)]) (fun j21 => [.int j21]) (fun j21 => (wM ad cI m_left m_bites m_many m_imageLeft m_imageBites m_imageMany m_wasLeft m_wasBites m_wasMany m_hasImage m_letterMany m_rowMany m_place m_seed m_kind m_figure m_imageKind m_imageFigure m_wasKind m_wasFigure m_letters m_row m_refused m_numbers m_counted m_few)) hf (fun j21 hf => ?_) (fun hj hf => ?_)
      · refine s_istore (lv1 := [(5, .int j21), (0, .ref (ad 0)), (1, .int a1), (2, .int v19.1), (3, .int v19.2.1), (4, .int v19.2.2)]) C 56 5 rfl dX6_grudge_54 (Nat.le_of_ble_eq_true rfl) rfl ?_
        refine s_iload C 58 0 rfl dX6_grudge_56 rfl ?_
        refine s_bn (α := Int32 × Int32) 100 (fun j25 => [(0, .ref (ad 0)), (1, .int a1), (2, .int j25.1), (3, .int j25.2), (4, .int v19.2.2)]) (fun j25 => []) (fun j25 => (wM ad cI m_left m_bites m_many m_imageLeft m_imageBites m_imageMany m_wasLeft m_wasBites m_wasMany m_hasImage m_letterMany m_rowMany m_place m_seed m_kind m_figure m_imageKind m_imageFigure m_wasKind m_wasFigure m_letters m_row m_refused m_numbers m_counted m_few)) hf (fun j25 hf => ?_) (fun hj hf => ?_)
        · refine s_iinc (lv1 := [(4, .int (v19.2.2 + (1 : Int32))), (0, .ref (ad 0)), (1, .int a1), (2, .int j25.1), (3, .int j25.2)]) C 103 4 4 rfl dX6_grudge_100 rfl ic_1 (Nat.le_of_ble_eq_true rfl) rfl ?_
          refine s_goto C 23 dX6_grudge_103 rfl ?_
          exact s_lv [1, 2, 3, 4, 0] rfl (ih20 ((j25.1, j25.2, v19.2.2 + (1 : Int32)) : Int32 × Int32 × Int32) hf)
        · refine s_if_lt C 100 61 rfl dX6_grudge_58 rfl (fun hc35 => ?_) (fun hc35 => ?_)
          · replace hf := bn_t hc35 hf
            replace hf := bn_i hf
            exact s_lv [1, 2, 3, 4, 5] rfl (hj ((v19.1, v19.2.1) : Int32 × Int32) hf)
          · replace hf := bn_f hc35 hf
            refine s_aload_n C 62 1 rfl dX6_grudge_61 rfl ?_
            refine s_aload_n C 63 1 rfl dX6_grudge_62 rfl ?_
            refine s_get (C1 := RX6) (T := TX6) (N := 26) (ci := 5) C 66 0 0 uX6 rfl rfl (Nat.le_of_ble_eq_true rfl) uu986 rfl rfl rfl dX6_grudge_63 ?_
            refine s_iload C 68 0 rfl dX6_grudge_66 rfl ?_
            obtain ⟨r26, q27, hf⟩ := bn_b hf
            refine s_callS0 (host := "") (rest := [.ref (ad 0)]) C 71 (c_X6_after l D cI adK adV m_left j21 r26 q27) (gS uu1317 uu1319 uu6 uu1320) hd_X6_after rfl ⟨rfl, rfl⟩ ⟨Nat.le_of_ble_eq_true rfl, Nat.le_of_ble_eq_true rfl⟩ ⟨Nat.le_of_ble_eq_true rfl, Nat.le_of_ble_eq_true rfl⟩ rfl (Nat.le_of_ble_eq_true rfl) rfl dX6_grudge_68 ?_
            refine s_iload_n C 72 2 rfl dX6_grudge_71 rfl ?_
            obtain ⟨r28, q29, hf⟩ := bn_b hf
            refine s_callW (T := TX6) (N := 26) (ci := 5) (q0 := 0) (rest := []) C 75 (c_X6_shareOf l D cI adK adV ad m_left m_bites m_many m_imageLeft m_imageBites m_imageMany m_wasLeft m_wasBites m_wasMany m_hasImage m_letterMany m_rowMany m_place m_seed m_kind m_figure m_imageKind m_imageFigure m_wasKind m_wasFigure m_letters m_row m_refused m_numbers m_counted m_few r26 a1 r28 q29) (gV uu1198 uu1200 uu1582 uu6 uu1201) hd_X6_shareOf rfl ⟨rfl, rfl⟩ ⟨Nat.le_of_ble_eq_true rfl, Nat.le_of_ble_eq_true rfl⟩ ⟨Nat.le_of_ble_eq_true rfl, Nat.le_of_ble_eq_true rfl⟩ rfl rfl rfl (Nat.le_of_ble_eq_true rfl) rfl dX6_grudge_72 (fun _ => ?_)
            refine s_iload_n C 76 4 rfl dX6_grudge_75 rfl ?_
            refine s_icmp_lt C 82 79 rfl dX6_grudge_76 rfl (fun hc34 => ?_) (fun hc34 => ?_)
            · replace hf := bn_t hc34 hf
              refine s_iload C 84 5 rfl dX6_grudge_82 rfl ?_
              refine s_istore_n (lv1 := [(2, .int v19.2.2), (5, .int j21), (0, .ref (ad 0)), (1, .int a1), (3, .int v19.2.1), (4, .int v19.2.2)]) C 85 2 rfl dX6_grudge_84 rfl (Nat.le_of_ble_eq_true rfl) rfl ?_
              refine s_aload_n C 86 2 rfl dX6_grudge_85 rfl ?_
              refine s_aload_n C 87 2 rfl dX6_grudge_86 rfl ?_
              refine s_get (C1 := RX6) (T := TX6) (N := 26) (ci := 5) C 90 0 0 uX6 rfl rfl (Nat.le_of_ble_eq_true rfl) uu986 rfl rfl rfl dX6_grudge_87 ?_
              refine s_iload C 92 1 rfl dX6_grudge_90 rfl ?_
              obtain ⟨r30, q31, hf⟩ := bn_b hf
              refine s_callS0 (host := "") (rest := [.ref (ad 0)]) C 95 (c_X6_after l D cI adK adV m_left j21 r30 q31) (gS uu1317 uu1319 uu6 uu1320) hd_X6_after rfl ⟨rfl, rfl⟩ ⟨Nat.le_of_ble_eq_true rfl, Nat.le_of_ble_eq_true rfl⟩ ⟨Nat.le_of_ble_eq_true rfl, Nat.le_of_ble_eq_true rfl⟩ rfl (Nat.le_of_ble_eq_true rfl) rfl dX6_grudge_92 ?_
              refine s_iload_n C 96 3 rfl dX6_grudge_95 rfl ?_
              obtain ⟨r32, q33, hf⟩ := bn_b hf
              refine s_callW (T := TX6) (N := 26) (ci := 5) (q0 := 0) (rest := []) C 99 (c_X6_shareOf l D cI adK adV ad m_left m_bites m_many m_imageLeft m_imageBites m_imageMany m_wasLeft m_wasBites m_wasMany m_hasImage m_letterMany m_rowMany m_place m_seed m_kind m_figure m_imageKind m_imageFigure m_wasKind m_wasFigure m_letters m_row m_refused m_numbers m_counted m_few r30 a1 r32 q33) (gV uu1198 uu1200 uu1582 uu6 uu1201) hd_X6_shareOf rfl ⟨rfl, rfl⟩ ⟨Nat.le_of_ble_eq_true rfl, Nat.le_of_ble_eq_true rfl⟩ ⟨Nat.le_of_ble_eq_true rfl, Nat.le_of_ble_eq_true rfl⟩ rfl rfl rfl (Nat.le_of_ble_eq_true rfl) rfl dX6_grudge_96 (fun _ => ?_)
              refine s_istore_n (lv1 := [(3, .int r32), (2, .int v19.2.2), (5, .int j21), (0, .ref (ad 0)), (1, .int a1), (4, .int v19.2.2)]) C 100 3 rfl dX6_grudge_99 rfl (Nat.le_of_ble_eq_true rfl) rfl ?_
              replace hf := bn_i hf
              exact s_lv [3, 4, 1, 0, 5] rfl (hj ((v19.2.2, r32) : Int32 × Int32) hf)
            · replace hf := bn_f hc34 hf
              refine s_goto C 100 dX6_grudge_79 rfl ?_
              replace hf := bn_i hf
              exact s_lv [1, 2, 3, 4, 5] rfl (hj ((v19.1, v19.2.1) : Int32 × Int32) hf)
      · refine s_icmp_ne C 43 38 rfl dX6_grudge_35 rfl (fun hc24 => ?_) (fun hc24 => ?_)
        · replace hf := bn_f hc24 hf
          refine s_aload_n C 44 0 rfl dX6_grudge_43 rfl ?_
          refine s_aload_n C 45 0 rfl dX6_grudge_44 rfl ?_
          refine s_get (C1 := RX6) (T := TX6) (N := 26) (ci := 5) C 48 0 0 uX6 rfl rfl (Nat.le_of_ble_eq_true rfl) uu986 rfl rfl rfl dX6_grudge_45 ?_
          refine s_iload C 50 4 rfl dX6_grudge_48 rfl ?_
          refine s_iconst C 51 rfl dX6_grudge_50 ic_1 ?_
          obtain ⟨r22, q23, hf⟩ := bn_b hf
          refine s_callW (T := TX6) (N := 26) (ci := 5) (q0 := 0) (rest := []) C 54 (c_X6_biteFor l D cI adK adV ad m_left m_bites m_many m_imageLeft m_imageBites m_imageMany m_wasLeft m_wasBites m_wasMany m_hasImage m_letterMany m_rowMany m_place m_seed m_kind m_figure m_imageKind m_imageFigure m_wasKind m_wasFigure m_letters m_row m_refused m_numbers m_counted m_few m_left v19.2.2 (1 : Int32) r22 q23) (gV uu1312 uu1314 uu1585 uu6 uu1315) hd_X6_biteFor rfl ⟨rfl, rfl⟩ ⟨Nat.le_of_ble_eq_true rfl, Nat.le_of_ble_eq_true rfl⟩ ⟨Nat.le_of_ble_eq_true rfl, Nat.le_of_ble_eq_true rfl⟩ rfl rfl rfl (Nat.le_of_ble_eq_true rfl) rfl dX6_grudge_51 (fun _ => ?_)
          replace hf := bn_i hf
          exact s_lv [0, 1, 2, 3, 4] rfl (hj (r22 : Int32) hf)
        · replace hf := bn_t hc24 hf
          refine s_bipush C 40 rfl dX6_grudge_38 bp_m9 ?_
          refine s_goto C 54 dX6_grudge_40 rfl ?_
          replace hf := bn_i hf
          exact s_lv [0, 1, 2, 3, 4] rfl (hj ((-9 : Int32) : Int32) hf)
  · replace hf := ite_t hc39 hf
    refine s_aload_n C 9 0 rfl dX6_grudge_8 rfl ?_
    refine s_iconst C 10 rfl dX6_grudge_9 ic_m1 ?_
    obtain ⟨r37, q38, hf⟩ := bn_s hf
    refine s_callW (T := TX6) (N := 26) (ci := 5) (q0 := 0) (rest := []) C 13 (c_X6_no l D cI adK adV ad m_left m_bites m_many m_imageLeft m_imageBites m_imageMany m_wasLeft m_wasBites m_wasMany m_hasImage m_letterMany m_rowMany m_place m_seed m_kind m_figure m_imageKind m_imageFigure m_wasKind m_wasFigure m_letters m_row m_refused m_numbers m_counted m_few (-1 : Int32) r37 q38) (gV uu1070 uu1072 uu1571 uu6 uu1073) hd_X6_no rfl ⟨rfl, rfl⟩ ⟨Nat.le_of_ble_eq_true rfl, Nat.le_of_ble_eq_true rfl⟩ ⟨Nat.le_of_ble_eq_true rfl, Nat.le_of_ble_eq_true rfl⟩ rfl rfl rfl (Nat.le_of_ble_eq_true rfl) rfl dX6_grudge_10 (fun _ => ?_)
    obtain rfl := Option.some.inj hf
    exact s_iret C (fun i => i) hr hlk rfl rfl dX6_grudge_13


theorem hd_X6_gain : yX6_gain.cls = RX6 ∧ yX6_gain.cls ≠ "java/lang/invoke/MethodHandle" ∧ yX6_gain.cls ≠ "java/lang/invoke/VarHandle" ∧ (parseMethodDescriptor yX6_gain.desc).map (fun d => d.parameters.length) = some 2 := by decide +kernel
set_option maxHeartbeats 4000000 in
set_option maxRecDepth 100000 in
theorem c_X6_gain (l : Launch) (D : va_G) (cI : ClassId) (adK adV : Nat → Nat) (ad : Nat → Nat) (m_left : Int32) (m_bites : Int32) (m_many : Int32) (m_imageLeft : Int32) (m_imageBites : Int32) (m_imageMany : Int32) (m_wasLeft : Int32) (m_wasBites : Int32) (m_wasMany : Int32) (m_hasImage : Int32) (m_letterMany : Int32) (m_rowMany : Int32) (m_place : Int32) (m_seed : Int32) (m_kind : (Nat → Int32)) (m_figure : (Nat → Int32)) (m_imageKind : (Nat → Int32)) (m_imageFigure : (Nat → Int32)) (m_wasKind : (Nat → Int32)) (m_wasFigure : (Nat → Int32)) (m_letters : (Nat → Int32)) (m_row : (Nat → Int32)) (m_refused : (Nat → Int32)) (m_numbers : (Nat → Int32)) (m_counted : (Nat → Int32)) (m_few : (Nat → Int32)) (a1 : Int32) (a2 : Int32) (o : Int32 × (Nat → Int32)) (hf : f_X6_gain m_left m_many m_kind m_figure m_refused a1 a2 = some o) : Ct l D cI adK adV yX6_gain (wy yX6_gain cX6_gain 3 (some .int)) { frames := 6, cells := 0, slots := 0, locals := 145 } 0 0 [.ref (ad 0), .int a1, .int a2] (wM ad cI m_left m_bites m_many m_imageLeft m_imageBites m_imageMany m_wasLeft m_wasBites m_wasMany m_hasImage m_letterMany m_rowMany m_place m_seed m_kind m_figure m_imageKind m_imageFigure m_wasKind m_wasFigure m_letters m_row m_refused m_numbers m_counted m_few) (fun _ => (wM ad cI m_left m_bites m_many m_imageLeft m_imageBites m_imageMany m_wasLeft m_wasBites m_wasMany m_hasImage m_letterMany m_rowMany m_place m_seed m_kind m_figure m_imageKind m_imageFigure m_wasKind m_wasFigure m_letters m_row o.2 m_numbers m_counted m_few)) (some (.int o.1)) := by
  refine Ct.of (cc := cX6_gain) (nL := 3) (ret := (some .int)) (own := RX6) (by decide) (Nat.le_of_ble_eq_true rfl) rfl ?_
  intro p e s m args below meth c A C hr hlk hnm
  refine s_lv (lv1 := [(0, .ref (ad 0)), (1, .int a1), (2, .int a2)]) [0, 1, 2] rfl ?_
  unfold f_X6_gain at hf
  refine s_aload_n C 1 0 rfl dX6_gain_0 rfl ?_
  refine s_iload_n C 2 1 rfl dX6_gain_1 rfl ?_
  refine s_iload_n C 3 2 rfl dX6_gain_2 rfl ?_
  obtain ⟨r1, q2, hf⟩ := bn_s hf
  refine s_callW (T := TX6) (N := 26) (ci := 5) (q0 := 0) (rest := []) C 6 (c_X6_areTwo l D cI adK adV ad m_left m_bites m_many m_imageLeft m_imageBites m_imageMany m_wasLeft m_wasBites m_wasMany m_hasImage m_letterMany m_rowMany m_place m_seed m_kind m_figure m_imageKind m_imageFigure m_wasKind m_wasFigure m_letters m_row m_refused m_numbers m_counted m_few a1 a2 r1 q2) (gV uu1401 uu1403 uu1589 uu6 uu1404) hd_X6_areTwo rfl ⟨rfl, rfl⟩ ⟨Nat.le_of_ble_eq_true rfl, Nat.le_of_ble_eq_true rfl⟩ ⟨Nat.le_of_ble_eq_true rfl, Nat.le_of_ble_eq_true rfl⟩ rfl rfl rfl (Nat.le_of_ble_eq_true rfl) rfl dX6_gain_3 (fun _ => ?_)
  refine s_if_eq C 44 9 rfl dX6_gain_6 rfl (fun hc13 => ?_) (fun hc13 => ?_)
  · replace hf := ite_t hc13 hf
    refine s_aload_n C 45 0 rfl dX6_gain_44 rfl ?_
    refine s_iconst C 46 rfl dX6_gain_45 ic_m1 ?_
    obtain ⟨r3, q4, hf⟩ := bn_s hf
    refine s_callW (T := TX6) (N := 26) (ci := 5) (q0 := 0) (rest := []) C 49 (c_X6_noFar l D cI adK adV ad m_left m_bites m_many m_imageLeft m_imageBites m_imageMany m_wasLeft m_wasBites m_wasMany m_hasImage m_letterMany m_rowMany m_place m_seed m_kind m_figure m_imageKind m_imageFigure m_wasKind m_wasFigure m_letters m_row m_refused m_numbers m_counted m_few (-1 : Int32) r3 q4) (gV uu1406 uu1408 uu1590 uu6 uu1409) hd_X6_noFar rfl ⟨rfl, rfl⟩ ⟨Nat.le_of_ble_eq_true rfl, Nat.le_of_ble_eq_true rfl⟩ ⟨Nat.le_of_ble_eq_true rfl, Nat.le_of_ble_eq_true rfl⟩ rfl rfl rfl (Nat.le_of_ble_eq_true rfl) rfl dX6_gain_46 (fun _ => ?_)
    obtain rfl := Option.some.inj hf
    exact s_iret C (fun i => i) hr hlk rfl rfl dX6_gain_49
  · replace hf := ite_f hc13 hf
    refine s_aload_n C 10 0 rfl dX6_gain_9 rfl ?_
    refine s_aload_n C 11 0 rfl dX6_gain_10 rfl ?_
    refine s_get (C1 := RX6) (T := TX6) (N := 26) (ci := 5) C 14 0 0 uX6 rfl rfl (Nat.le_of_ble_eq_true rfl) uu986 rfl rfl rfl dX6_gain_11 ?_
    refine s_aload_n C 15 0 rfl dX6_gain_14 rfl ?_
    refine s_aload_n C 16 0 rfl dX6_gain_15 rfl ?_
    refine s_get (C1 := RX6) (T := TX6) (N := 26) (ci := 5) C 19 0 0 uX6 rfl rfl (Nat.le_of_ble_eq_true rfl) uu986 rfl rfl rfl dX6_gain_16 ?_
    refine s_iload_n C 20 1 rfl dX6_gain_19 rfl ?_
    refine s_iconst C 21 rfl dX6_gain_20 ic_1 ?_
    obtain ⟨r5, q6, hf⟩ := bn_s hf
    refine s_callW (T := TX6) (N := 26) (ci := 5) (q0 := 0) (rest := [.int m_left, .ref (ad 0)]) C 24 (c_X6_biteFor l D cI adK adV ad m_left m_bites m_many m_imageLeft m_imageBites m_imageMany m_wasLeft m_wasBites m_wasMany m_hasImage m_letterMany m_rowMany m_place m_seed m_kind m_figure m_imageKind m_imageFigure m_wasKind m_wasFigure m_letters m_row m_refused m_numbers m_counted m_few m_left a1 (1 : Int32) r5 q6) (gV uu1312 uu1314 uu1585 uu6 uu1315) hd_X6_biteFor rfl ⟨rfl, rfl⟩ ⟨Nat.le_of_ble_eq_true rfl, Nat.le_of_ble_eq_true rfl⟩ ⟨Nat.le_of_ble_eq_true rfl, Nat.le_of_ble_eq_true rfl⟩ rfl rfl rfl (Nat.le_of_ble_eq_true rfl) rfl dX6_gain_21 (fun _ => ?_)
    obtain ⟨r7, q8, hf⟩ := bn_s hf
    refine s_callS0 (host := "") (rest := [.ref (ad 0)]) C 27 (c_X6_after l D cI adK adV m_left r5 r7 q8) (gS uu1317 uu1319 uu6 uu1320) hd_X6_after rfl ⟨rfl, rfl⟩ ⟨Nat.le_of_ble_eq_true rfl, Nat.le_of_ble_eq_true rfl⟩ ⟨Nat.le_of_ble_eq_true rfl, Nat.le_of_ble_eq_true rfl⟩ rfl (Nat.le_of_ble_eq_true rfl) rfl dX6_gain_24 ?_
    refine s_iload_n C 28 2 rfl dX6_gain_27 rfl ?_
    obtain ⟨r9, q10, hf⟩ := bn_s hf
    refine s_callW (T := TX6) (N := 26) (ci := 5) (q0 := 0) (rest := []) C 31 (c_X6_shareOf l D cI adK adV ad m_left m_bites m_many m_imageLeft m_imageBites m_imageMany m_wasLeft m_wasBites m_wasMany m_hasImage m_letterMany m_rowMany m_place m_seed m_kind m_figure m_imageKind m_imageFigure m_wasKind m_wasFigure m_letters m_row m_refused m_numbers m_counted m_few r7 a2 r9 q10) (gV uu1198 uu1200 uu1582 uu6 uu1201) hd_X6_shareOf rfl ⟨rfl, rfl⟩ ⟨Nat.le_of_ble_eq_true rfl, Nat.le_of_ble_eq_true rfl⟩ ⟨Nat.le_of_ble_eq_true rfl, Nat.le_of_ble_eq_true rfl⟩ rfl rfl rfl (Nat.le_of_ble_eq_true rfl) rfl dX6_gain_28 (fun _ => ?_)
    refine s_aload_n C 32 0 rfl dX6_gain_31 rfl ?_
    refine s_aload_n C 33 0 rfl dX6_gain_32 rfl ?_
    refine s_get (C1 := RX6) (T := TX6) (N := 26) (ci := 5) C 36 0 0 uX6 rfl rfl (Nat.le_of_ble_eq_true rfl) uu986 rfl rfl rfl dX6_gain_33 ?_
    refine s_iload_n C 37 2 rfl dX6_gain_36 rfl ?_
    obtain ⟨r11, q12, hf⟩ := bn_s hf
    refine s_callW (T := TX6) (N := 26) (ci := 5) (q0 := 0) (rest := [.int r9]) C 40 (c_X6_shareOf l D cI adK adV ad m_left m_bites m_many m_imageLeft m_imageBites m_imageMany m_wasLeft m_wasBites m_wasMany m_hasImage m_letterMany m_rowMany m_place m_seed m_kind m_figure m_imageKind m_imageFigure m_wasKind m_wasFigure m_letters m_row m_refused m_numbers m_counted m_few m_left a2 r11 q12) (gV uu1198 uu1200 uu1582 uu6 uu1201) hd_X6_shareOf rfl ⟨rfl, rfl⟩ ⟨Nat.le_of_ble_eq_true rfl, Nat.le_of_ble_eq_true rfl⟩ ⟨Nat.le_of_ble_eq_true rfl, Nat.le_of_ble_eq_true rfl⟩ rfl rfl rfl (Nat.le_of_ble_eq_true rfl) rfl dX6_gain_37 (fun _ => ?_)
    refine s_isub C 41 rfl dX6_gain_40 ?_
    refine s_goto C 49 dX6_gain_41 rfl ?_
    obtain rfl := Option.some.inj hf
    exact s_iret C (fun i => i) hr hlk rfl rfl dX6_gain_49


theorem hd_X6_join : yX6_join.cls = RX6 ∧ yX6_join.cls ≠ "java/lang/invoke/MethodHandle" ∧ yX6_join.cls ≠ "java/lang/invoke/VarHandle" ∧ (parseMethodDescriptor yX6_join.desc).map (fun d => d.parameters.length) = some 1 := by decide +kernel
set_option maxHeartbeats 4000000 in
set_option maxRecDepth 100000 in
theorem c_X6_join (l : Launch) (D : va_G) (cI : ClassId) (adK adV : Nat → Nat) (ad : Nat → Nat) (m_left : Int32) (m_bites : Int32) (m_many : Int32) (m_imageLeft : Int32) (m_imageBites : Int32) (m_imageMany : Int32) (m_wasLeft : Int32) (m_wasBites : Int32) (m_wasMany : Int32) (m_hasImage : Int32) (m_letterMany : Int32) (m_rowMany : Int32) (m_place : Int32) (m_seed : Int32) (m_kind : (Nat → Int32)) (m_figure : (Nat → Int32)) (m_imageKind : (Nat → Int32)) (m_imageFigure : (Nat → Int32)) (m_wasKind : (Nat → Int32)) (m_wasFigure : (Nat → Int32)) (m_letters : (Nat → Int32)) (m_row : (Nat → Int32)) (m_refused : (Nat → Int32)) (m_numbers : (Nat → Int32)) (m_counted : (Nat → Int32)) (m_few : (Nat → Int32)) (a1 : Int32) (o : Int32 × (Nat → Int32)) (hf : f_X6_join m_left m_refused a1 = some o) : Ct l D cI adK adV yX6_join (wy yX6_join cX6_join 2 (some .int)) { frames := 3, cells := 0, slots := 0, locals := 67 } 0 0 [.ref (ad 0), .int a1] (wM ad cI m_left m_bites m_many m_imageLeft m_imageBites m_imageMany m_wasLeft m_wasBites m_wasMany m_hasImage m_letterMany m_rowMany m_place m_seed m_kind m_figure m_imageKind m_imageFigure m_wasKind m_wasFigure m_letters m_row m_refused m_numbers m_counted m_few) (fun _ => (wM ad cI m_left m_bites m_many m_imageLeft m_imageBites m_imageMany m_wasLeft m_wasBites m_wasMany m_hasImage m_letterMany m_rowMany m_place m_seed m_kind m_figure m_imageKind m_imageFigure m_wasKind m_wasFigure m_letters m_row o.2 m_numbers m_counted m_few)) (some (.int o.1)) := by
  refine Ct.of (cc := cX6_join) (nL := 2) (ret := (some .int)) (own := RX6) (by decide) (Nat.le_of_ble_eq_true rfl) rfl ?_
  intro p e s m args below meth c A C hr hlk hnm
  refine s_lv (lv1 := [(0, .ref (ad 0)), (1, .int a1)]) [0, 1] rfl ?_
  unfold f_X6_join at hf
  refine s_iload_n C 1 1 rfl dX6_join_0 rfl ?_
  obtain ⟨r1, q2, hf⟩ := bn_s hf
  refine s_callS0 (host := "") (rest := []) C 4 (c_X6_isCell l D cI adK adV a1 r1 q2) (gS uu1121 uu1123 uu6 uu1124) hd_X6_isCell rfl ⟨rfl, rfl⟩ ⟨Nat.le_of_ble_eq_true rfl, Nat.le_of_ble_eq_true rfl⟩ ⟨Nat.le_of_ble_eq_true rfl, Nat.le_of_ble_eq_true rfl⟩ rfl (Nat.le_of_ble_eq_true rfl) rfl dX6_join_1 ?_
  refine s_if_ne C 13 7 rfl dX6_join_4 rfl (fun hc12 => ?_) (fun hc12 => ?_)
  · replace hf := ite_f hc12 hf
    refine s_aload_n C 14 0 rfl dX6_join_13 rfl ?_
    refine s_get (C1 := RX6) (T := TX6) (N := 26) (ci := 5) C 17 0 0 uX6 rfl rfl (Nat.le_of_ble_eq_true rfl) uu986 rfl rfl rfl dX6_join_14 ?_
    refine s_iload_n C 18 1 rfl dX6_join_17 rfl ?_
    obtain ⟨r3, q4, hf⟩ := bn_s hf
    refine s_callS0 (host := "") (rest := []) C 21 (c_X6_has l D cI adK adV m_left a1 r3 q4) (gS uu1218 uu1220 uu6 uu1221) hd_X6_has rfl ⟨rfl, rfl⟩ ⟨Nat.le_of_ble_eq_true rfl, Nat.le_of_ble_eq_true rfl⟩ ⟨Nat.le_of_ble_eq_true rfl, Nat.le_of_ble_eq_true rfl⟩ rfl (Nat.le_of_ble_eq_true rfl) rfl dX6_join_18 ?_
    refine s_if_eq C 33 24 rfl dX6_join_21 rfl (fun hc9 => ?_) (fun hc9 => ?_)
    · replace hf := ite_t hc9 hf
      refine s_aload_n C 34 0 rfl dX6_join_33 rfl ?_
      refine s_get (C1 := RX6) (T := TX6) (N := 26) (ci := 5) C 37 0 0 uX6 rfl rfl (Nat.le_of_ble_eq_true rfl) uu986 rfl rfl rfl dX6_join_34 ?_
      refine s_iconst C 38 rfl dX6_join_37 ic_1 ?_
      refine s_iload_n C 39 1 rfl dX6_join_38 rfl ?_
      refine s_ishl C 40 rfl dX6_join_39 ?_
      refine s_ior C 41 rfl dX6_join_40 ?_
      obtain ⟨r5, q6, hf⟩ := bn_s hf
      refine s_callS0 (host := "") (rest := []) C 44 (c_X6_heaps l D cI adK adV (m_left ||| (jshl (1 : Int32) a1)) r5 q6) (gS uu1228 uu1230 uu6 uu1231) hd_X6_heaps rfl ⟨rfl, rfl⟩ ⟨Nat.le_of_ble_eq_true rfl, Nat.le_of_ble_eq_true rfl⟩ ⟨Nat.le_of_ble_eq_true rfl, Nat.le_of_ble_eq_true rfl⟩ rfl (Nat.le_of_ble_eq_true rfl) rfl dX6_join_41 ?_
      obtain rfl := Option.some.inj hf
      exact s_iret C (fun i => i) hr hlk rfl rfl dX6_join_44
    · replace hf := ite_f hc9 hf
      refine s_aload_n C 25 0 rfl dX6_join_24 rfl ?_
      refine s_bipush C 27 rfl dX6_join_25 bp_m3 ?_
      obtain ⟨r7, q8, hf⟩ := bn_s hf
      refine s_callW (T := TX6) (N := 26) (ci := 5) (q0 := 0) (rest := []) C 30 (c_X6_no l D cI adK adV ad m_left m_bites m_many m_imageLeft m_imageBites m_imageMany m_wasLeft m_wasBites m_wasMany m_hasImage m_letterMany m_rowMany m_place m_seed m_kind m_figure m_imageKind m_imageFigure m_wasKind m_wasFigure m_letters m_row m_refused m_numbers m_counted m_few (-3 : Int32) r7 q8) (gV uu1070 uu1072 uu1571 uu6 uu1073) hd_X6_no rfl ⟨rfl, rfl⟩ ⟨Nat.le_of_ble_eq_true rfl, Nat.le_of_ble_eq_true rfl⟩ ⟨Nat.le_of_ble_eq_true rfl, Nat.le_of_ble_eq_true rfl⟩ rfl rfl rfl (Nat.le_of_ble_eq_true rfl) rfl dX6_join_27 (fun _ => ?_)
      refine s_goto C 44 dX6_join_30 rfl ?_
      obtain rfl := Option.some.inj hf
      exact s_iret C (fun i => i) hr hlk rfl rfl dX6_join_44
  · replace hf := ite_t hc12 hf
    refine s_aload_n C 8 0 rfl dX6_join_7 rfl ?_
    refine s_iconst C 9 rfl dX6_join_8 ic_m1 ?_
    obtain ⟨r10, q11, hf⟩ := bn_s hf
    refine s_callW (T := TX6) (N := 26) (ci := 5) (q0 := 0) (rest := []) C 12 (c_X6_no l D cI adK adV ad m_left m_bites m_many m_imageLeft m_imageBites m_imageMany m_wasLeft m_wasBites m_wasMany m_hasImage m_letterMany m_rowMany m_place m_seed m_kind m_figure m_imageKind m_imageFigure m_wasKind m_wasFigure m_letters m_row m_refused m_numbers m_counted m_few (-1 : Int32) r10 q11) (gV uu1070 uu1072 uu1571 uu6 uu1073) hd_X6_no rfl ⟨rfl, rfl⟩ ⟨Nat.le_of_ble_eq_true rfl, Nat.le_of_ble_eq_true rfl⟩ ⟨Nat.le_of_ble_eq_true rfl, Nat.le_of_ble_eq_true rfl⟩ rfl rfl rfl (Nat.le_of_ble_eq_true rfl) rfl dX6_join_9 (fun _ => ?_)
    obtain rfl := Option.some.inj hf
    exact s_iret C (fun i => i) hr hlk rfl rfl dX6_join_12


theorem hd_X6_bridge : yX6_bridge.cls = RX6 ∧ yX6_bridge.cls ≠ "java/lang/invoke/MethodHandle" ∧ yX6_bridge.cls ≠ "java/lang/invoke/VarHandle" ∧ (parseMethodDescriptor yX6_bridge.desc).map (fun d => d.parameters.length) = some 1 := by decide +kernel
set_option maxHeartbeats 4000000 in
set_option maxRecDepth 100000 in
theorem c_X6_bridge (l : Launch) (D : va_G) (cI : ClassId) (adK adV : Nat → Nat) (ad : Nat → Nat) (m_left : Int32) (m_bites : Int32) (m_many : Int32) (m_imageLeft : Int32) (m_imageBites : Int32) (m_imageMany : Int32) (m_wasLeft : Int32) (m_wasBites : Int32) (m_wasMany : Int32) (m_hasImage : Int32) (m_letterMany : Int32) (m_rowMany : Int32) (m_place : Int32) (m_seed : Int32) (m_kind : (Nat → Int32)) (m_figure : (Nat → Int32)) (m_imageKind : (Nat → Int32)) (m_imageFigure : (Nat → Int32)) (m_wasKind : (Nat → Int32)) (m_wasFigure : (Nat → Int32)) (m_letters : (Nat → Int32)) (m_row : (Nat → Int32)) (m_refused : (Nat → Int32)) (m_numbers : (Nat → Int32)) (m_counted : (Nat → Int32)) (m_few : (Nat → Int32)) (a1 : Int32) (o : Int32 × (Nat → Int32)) (hf : f_X6_bridge m_left m_refused a1 = some o) : Ct l D cI adK adV yX6_bridge (wy yX6_bridge cX6_bridge 7 (some .int)) { frames := 3, cells := 0, slots := 0, locals := 67 } 0 0 [.ref (ad 0), .int a1] (wM ad cI m_left m_bites m_many m_imageLeft m_imageBites m_imageMany m_wasLeft m_wasBites m_wasMany m_hasImage m_letterMany m_rowMany m_place m_seed m_kind m_figure m_imageKind m_imageFigure m_wasKind m_wasFigure m_letters m_row m_refused m_numbers m_counted m_few) (fun _ => (wM ad cI m_left m_bites m_many m_imageLeft m_imageBites m_imageMany m_wasLeft m_wasBites m_wasMany m_hasImage m_letterMany m_rowMany m_place m_seed m_kind m_figure m_imageKind m_imageFigure m_wasKind m_wasFigure m_letters m_row o.2 m_numbers m_counted m_few)) (some (.int o.1)) := by
  refine Ct.of (cc := cX6_bridge) (nL := 7) (ret := (some .int)) (own := RX6) (by decide) (Nat.le_of_ble_eq_true rfl) rfl ?_
  intro p e s m args below meth c A C hr hlk hnm
  refine s_lv (lv1 := [(0, .ref (ad 0)), (1, .int a1)]) [0, 1] rfl ?_
  unfold f_X6_bridge at hf
  refine s_iload_n C 1 1 rfl dX6_bridge_0 rfl ?_
  refine s_iconst C 2 rfl dX6_bridge_1 ic_0 ?_
  refine s_iconst C 3 rfl dX6_bridge_2 ic_2 ?_
  obtain ⟨r1, q2, hf⟩ := bn_s hf
  refine s_callS0 (host := "") (rest := []) C 6 (c_X6_isIn l D cI adK adV a1 (0 : Int32) (2 : Int32) r1 q2) (gS uu1106 uu1108 uu6 uu1109) hd_X6_isIn rfl ⟨rfl, rfl⟩ ⟨Nat.le_of_ble_eq_true rfl, Nat.le_of_ble_eq_true rfl⟩ ⟨Nat.le_of_ble_eq_true rfl, Nat.le_of_ble_eq_true rfl⟩ rfl (Nat.le_of_ble_eq_true rfl) rfl dX6_bridge_3 ?_
  refine s_if_ne C 16 9 rfl dX6_bridge_6 rfl (fun hc55 => ?_) (fun hc55 => ?_)
  · replace hf := ite_f hc55 hf
    refine s_iconst C 17 rfl dX6_bridge_16 ic_0 ?_
    refine s_istore_n (lv1 := [(2, .int (0 : Int32)), (0, .ref (ad 0)), (1, .int a1)]) C 18 2 rfl dX6_bridge_17 rfl (Nat.le_of_ble_eq_true rfl) rfl ?_
    refine s_bipush C 20 rfl dX6_bridge_18 bp_m9 ?_
    refine s_istore_n (lv1 := [(3, .int (-9 : Int32)), (2, .int (0 : Int32)), (0, .ref (ad 0)), (1, .int a1)]) C 21 3 rfl dX6_bridge_20 rfl (Nat.le_of_ble_eq_true rfl) rfl ?_
    refine s_bipush C 23 rfl dX6_bridge_21 bp_m9 ?_
    refine s_istore (lv1 := [(4, .int (-9 : Int32)), (3, .int (-9 : Int32)), (2, .int (0 : Int32)), (0, .ref (ad 0)), (1, .int a1)]) C 25 4 rfl dX6_bridge_23 (Nat.le_of_ble_eq_true rfl) rfl ?_
    refine s_bipush C 27 rfl dX6_bridge_25 bp_24 ?_
    refine s_istore (lv1 := [(5, .int (24 : Int32)), (4, .int (-9 : Int32)), (3, .int (-9 : Int32)), (2, .int (0 : Int32)), (0, .ref (ad 0)), (1, .int a1)]) C 29 5 rfl dX6_bridge_27 (Nat.le_of_ble_eq_true rfl) rfl ?_
    refine s_lv (lv1 := [(0, .ref (ad 0)), (1, .int a1), (2, .int (0 : Int32)), (3, .int (-9 : Int32)), (4, .int (-9 : Int32)), (5, .int (24 : Int32))]) [4, 5, 3, 2, 1, 0] rfl ?_
    refine s_kont (γ := Int32 × Int32 × Int32) (o := o) (fun KQ => f_X6_bridge_29 m_left KQ 1000 (0 : Int32) (-9 : Int32) (-9 : Int32) (24 : Int32) = some o) 140 (fun e26 => [(1, .int a1), (2, .int e26.1), (3, .int e26.2.1), (4, .int e26.2.2)]) (fun e26 => []) (fun e26 => (wM ad cI m_left m_bites m_many m_imageLeft m_imageBites m_imageMany m_wasLeft m_wasBites m_wasMany m_hasImage m_letterMany m_rowMany m_place m_seed m_kind m_figure m_imageKind m_imageFigure m_wasKind m_wasFigure m_letters m_row m_refused m_numbers m_counted m_few)) hf (fun e26 hf => ?_) (fun k25 hk25 hf => ?_)
    · refine s_iload_n C 141 0 rfl dX6_bridge_140 rfl ?_
      refine s_if_ne C 148 144 rfl dX6_bridge_141 rfl (fun hc28 => ?_) (fun hc28 => ?_)
      · replace hf := ite_f hc28 hf
        refine s_iload_n C 149 0 rfl dX6_bridge_148 rfl ?_
        refine s_iconst C 150 rfl dX6_bridge_149 ic_1 ?_
        refine s_icmp_ne C 157 153 rfl dX6_bridge_150 rfl (fun hc27 => ?_) (fun hc27 => ?_)
        · replace hf := ite_f hc27 hf
          refine s_iload C 159 3 rfl dX6_bridge_157 rfl ?_
          obtain rfl := Option.some.inj hf
          exact s_iret C (fun i => i) hr hlk rfl rfl dX6_bridge_159
        · replace hf := ite_t hc27 hf
          refine s_iload_n C 154 2 rfl dX6_bridge_153 rfl ?_
          refine s_goto C 159 dX6_bridge_154 rfl ?_
          obtain rfl := Option.some.inj hf
          exact s_iret C (fun i => i) hr hlk rfl rfl dX6_bridge_159
      · replace hf := ite_t hc28 hf
        refine s_iload_n C 145 1 rfl dX6_bridge_144 rfl ?_
        refine s_goto C 159 dX6_bridge_145 rfl ?_
        obtain rfl := Option.some.inj hf
        exact s_iret C (fun i => i) hr hlk rfl rfl dX6_bridge_159
    · skip
      refine s_loop (α := Int32 × Int32 × Int32 × Int32) (fun n v29 => f_X6_bridge_29 m_left k25 n v29.1 v29.2.1 v29.2.2.1 v29.2.2.2) 29 (fun v29 => [(0, .ref (ad 0)), (1, .int a1), (2, .int v29.1), (3, .int v29.2.1), (4, .int v29.2.2.1), (5, .int v29.2.2.2)]) (fun v29 => (wM ad cI m_left m_bites m_many m_imageLeft m_imageBites m_imageMany m_wasLeft m_wasBites m_wasMany m_hasImage m_letterMany m_rowMany m_place m_seed m_kind m_figure m_imageKind m_imageFigure m_wasKind m_wasFigure m_letters m_row m_refused m_numbers m_counted m_few)) 1000 ((0 : Int32), (-9 : Int32), (-9 : Int32), (24 : Int32)) hf (fun v29 hf => by simp only [f_X6_bridge_29] at hf; exact absurd hf (by simp)) (fun n ih30 v29 hf => ?_)
      replace hf := (f_X6_bridge_29_s _ _ _ _ _ _ _).symm.trans hf
      refine s_iload C 31 5 rfl dX6_bridge_29 rfl ?_
      refine s_if_lt C 140 34 rfl dX6_bridge_31 rfl (fun hc52 => ?_) (fun hc52 => ?_)
      · replace hf := ite_t hc52 hf
        exact s_lv [1, 2, 3, 4] rfl (hk25 ((v29.1, v29.2.1, v29.2.2.1) : Int32 × Int32 × Int32) hf)
      · replace hf := ite_f hc52 hf
        refine s_aload_n C 35 0 rfl dX6_bridge_34 rfl ?_
        refine s_get (C1 := RX6) (T := TX6) (N := 26) (ci := 5) C 38 0 0 uX6 rfl rfl (Nat.le_of_ble_eq_true rfl) uu986 rfl rfl rfl dX6_bridge_35 ?_
        refine s_iload C 40 5 rfl dX6_bridge_38 rfl ?_
        obtain ⟨r31, q32, hf⟩ := bn_s hf
        refine s_callS0 (host := "") (rest := []) C 43 (c_X6_has l D cI adK adV m_left v29.2.2.2 r31 q32) (gS uu1218 uu1220 uu6 uu1221) hd_X6_has rfl ⟨rfl, rfl⟩ ⟨Nat.le_of_ble_eq_true rfl, Nat.le_of_ble_eq_true rfl⟩ ⟨Nat.le_of_ble_eq_true rfl, Nat.le_of_ble_eq_true rfl⟩ rfl (Nat.le_of_ble_eq_true rfl) rfl dX6_bridge_40 ?_
        refine s_bn (α := Int32 × Int32 × Int32) 134 (fun j33 => [(0, .ref (ad 0)), (1, .int a1), (2, .int j33.1), (3, .int j33.2.1), (4, .int j33.2.2), (5, .int v29.2.2.2)]) (fun j33 => []) (fun j33 => (wM ad cI m_left m_bites m_many m_imageLeft m_imageBites m_imageMany m_wasLeft m_wasBites m_wasMany m_hasImage m_letterMany m_rowMany m_place m_seed m_kind m_figure m_imageKind m_imageFigure m_wasKind m_wasFigure m_letters m_row m_refused m_numbers m_counted m_few)) hf (fun j33 hf => ?_) (fun hj hf => ?_)
        · refine s_iinc (lv1 := [(5, .int (v29.2.2.2 + (-1 : Int32))), (0, .ref (ad 0)), (1, .int a1), (2, .int j33.1), (3, .int j33.2.1), (4, .int j33.2.2)]) C 137 5 5 rfl dX6_bridge_134 rfl ic_m1 (Nat.le_of_ble_eq_true rfl) rfl ?_
          refine s_goto C 29 dX6_bridge_137 rfl ?_
          exact s_lv [1, 2, 3, 4, 5, 0] rfl (ih30 ((j33.1, j33.2.1, j33.2.2, v29.2.2.2 + (-1 : Int32)) : Int32 × Int32 × Int32 × Int32) hf)
        · refine s_if_ne C 49 46 rfl dX6_bridge_43 rfl (fun hc51 => ?_) (fun hc51 => ?_)
          · replace hf := bn_f hc51 hf
            refine s_aload_n C 50 0 rfl dX6_bridge_49 rfl ?_
            refine s_get (C1 := RX6) (T := TX6) (N := 26) (ci := 5) C 53 0 0 uX6 rfl rfl (Nat.le_of_ble_eq_true rfl) uu986 rfl rfl rfl dX6_bridge_50 ?_
            refine s_iconst C 54 rfl dX6_bridge_53 ic_1 ?_
            refine s_iload C 56 5 rfl dX6_bridge_54 rfl ?_
            refine s_ishl C 57 rfl dX6_bridge_56 ?_
            refine s_iconst C 58 rfl dX6_bridge_57 ic_m1 ?_
            refine s_ixor C 59 rfl dX6_bridge_58 ?_
            refine s_iand C 60 rfl dX6_bridge_59 ?_
            obtain ⟨r34, q35, hf⟩ := bn_b hf
            refine s_callS0 (host := "") (rest := []) C 63 (c_X6_heaps l D cI adK adV (m_left &&& ((jshl (1 : Int32) v29.2.2.2) ^^^ (-1 : Int32))) r34 q35) (gS uu1228 uu1230 uu6 uu1231) hd_X6_heaps rfl ⟨rfl, rfl⟩ ⟨Nat.le_of_ble_eq_true rfl, Nat.le_of_ble_eq_true rfl⟩ ⟨Nat.le_of_ble_eq_true rfl, Nat.le_of_ble_eq_true rfl⟩ rfl (Nat.le_of_ble_eq_true rfl) rfl dX6_bridge_60 ?_
            refine s_aload_n C 64 0 rfl dX6_bridge_63 rfl ?_
            refine s_get (C1 := RX6) (T := TX6) (N := 26) (ci := 5) C 67 0 0 uX6 rfl rfl (Nat.le_of_ble_eq_true rfl) uu986 rfl rfl rfl dX6_bridge_64 ?_
            obtain ⟨r36, q37, hf⟩ := bn_b hf
            refine s_callS0 (host := "") (rest := [.int r34]) C 70 (c_X6_heaps l D cI adK adV m_left r36 q37) (gS uu1228 uu1230 uu6 uu1231) hd_X6_heaps rfl ⟨rfl, rfl⟩ ⟨Nat.le_of_ble_eq_true rfl, Nat.le_of_ble_eq_true rfl⟩ ⟨Nat.le_of_ble_eq_true rfl, Nat.le_of_ble_eq_true rfl⟩ rfl (Nat.le_of_ble_eq_true rfl) rfl dX6_bridge_67 ?_
            replace hf := bn_jn hf
            refine s_jn (α := Int32) 78 (fun j38 => [(0, .ref (ad 0)), (1, .int a1), (2, .int v29.1), (3, .int v29.2.1), (4, .int v29.2.2.1), (5, .int v29.2.2.2)]) (fun j38 => [.int j38]) (fun j38 => (wM ad cI m_left m_bites m_many m_imageLeft m_imageBites m_imageMany m_wasLeft m_wasBites m_wasMany m_hasImage m_letterMany m_rowMany m_place m_seed m_kind m_figure m_imageKind m_imageFigure m_wasKind m_wasFigure m_letters m_row m_refused m_numbers m_counted m_few)) hf (fun j38 hf => ?_) (fun hj hf => ?_)
            · refine s_istore (lv1 := [(6, .int j38), (0, .ref (ad 0)), (1, .int a1), (2, .int v29.1), (3, .int v29.2.1), (4, .int v29.2.2.1), (5, .int v29.2.2.2)]) C 80 6 rfl dX6_bridge_78 (Nat.le_of_ble_eq_true rfl) rfl ?_
              refine s_iload_n C 81 3 rfl dX6_bridge_80 rfl ?_
              refine s_iload C 83 0 rfl dX6_bridge_81 rfl ?_
              replace hf := bn_jn hf
              refine s_jn (α := Int32) 91 (fun j40 => [(0, .ref (ad 0)), (1, .int a1), (3, .int v29.2.1), (4, .int v29.2.2.1), (5, .int v29.2.2.2), (6, .int j38)]) (fun j40 => [.int j40, .int v29.1]) (fun j40 => (wM ad cI m_left m_bites m_many m_imageLeft m_imageBites m_imageMany m_wasLeft m_wasBites m_wasMany m_hasImage m_letterMany m_rowMany m_place m_seed m_kind m_figure m_imageKind m_imageFigure m_wasKind m_wasFigure m_letters m_row m_refused m_numbers m_counted m_few)) hf (fun j40 hf => ?_) (fun hj hf => ?_)
              · refine s_iadd C 92 rfl dX6_bridge_91 ?_
                refine s_istore_n (lv1 := [(2, .int (v29.1 + j40)), (0, .ref (ad 0)), (1, .int a1), (3, .int v29.2.1), (4, .int v29.2.2.1), (5, .int v29.2.2.2), (6, .int j38)]) C 93 2 rfl dX6_bridge_92 rfl (Nat.le_of_ble_eq_true rfl) rfl ?_
                refine s_iload C 95 6 rfl dX6_bridge_93 rfl ?_
                replace hf := bn_jn hf
                refine s_jn (α := Int32) 104 (fun j42 => [(0, .ref (ad 0)), (1, .int a1), (2, .int (v29.1 + j40)), (4, .int v29.2.2.1), (5, .int v29.2.2.2)]) (fun j42 => [.int j42]) (fun j42 => (wM ad cI m_left m_bites m_many m_imageLeft m_imageBites m_imageMany m_wasLeft m_wasBites m_wasMany m_hasImage m_letterMany m_rowMany m_place m_seed m_kind m_figure m_imageKind m_imageFigure m_wasKind m_wasFigure m_letters m_row m_refused m_numbers m_counted m_few)) hf (fun j42 hf => ?_) (fun hj hf => ?_)
                · refine s_istore_n (lv1 := [(3, .int j42), (0, .ref (ad 0)), (1, .int a1), (2, .int (v29.1 + j40)), (4, .int v29.2.2.1), (5, .int v29.2.2.2)]) C 105 3 rfl dX6_bridge_104 rfl (Nat.le_of_ble_eq_true rfl) rfl ?_
                  refine s_iload C 107 4 rfl dX6_bridge_105 rfl ?_
                  replace hf := bn_bn hf
                  refine s_bn (α := Int32) 132 (fun j44 => [(0, .ref (ad 0)), (1, .int a1), (2, .int (v29.1 + j40)), (3, .int j42), (5, .int v29.2.2.2)]) (fun j44 => [.int j44]) (fun j44 => (wM ad cI m_left m_bites m_many m_imageLeft m_imageBites m_imageMany m_wasLeft m_wasBites m_wasMany m_hasImage m_letterMany m_rowMany m_place m_seed m_kind m_figure m_imageKind m_imageFigure m_wasKind m_wasFigure m_letters m_row m_refused m_numbers m_counted m_few)) hf (fun j44 hf => ?_) (fun hj hf => ?_)
                  · refine s_istore (lv1 := [(4, .int j44), (0, .ref (ad 0)), (1, .int a1), (2, .int (v29.1 + j40)), (3, .int j42), (5, .int v29.2.2.2)]) C 134 4 rfl dX6_bridge_132 (Nat.le_of_ble_eq_true rfl) rfl ?_
                    replace hf := bn_i hf
                    exact s_lv [1, 2, 3, 4, 0, 5] rfl (hj ((v29.1 + j40, j42, j44) : Int32 × Int32 × Int32) hf)
                  · refine s_if_lt C 125 110 rfl dX6_bridge_107 rfl (fun hc50 => ?_) (fun hc50 => ?_)
                    · replace hf := bn_t hc50 hf
                      refine s_iload C 127 5 rfl dX6_bridge_125 rfl ?_
                      refine s_goto C 132 dX6_bridge_127 rfl ?_
                      replace hf := bn_i hf
                      exact s_lv [1, 2, 3, 0, 5] rfl (hj (v29.2.2.2 : Int32) hf)
                    · replace hf := bn_f hc50 hf
                      refine s_aload_n C 111 1 rfl dX6_bridge_110 rfl ?_
                      refine s_iload C 113 5 rfl dX6_bridge_111 rfl ?_
                      obtain ⟨r45, q46, hf⟩ := bn_b hf
                      refine s_callW (T := TX6) (N := 26) (ci := 5) (q0 := 0) (rest := []) C 116 (c_X6_stepsFrom l D cI adK adV ad m_left m_bites m_many m_imageLeft m_imageBites m_imageMany m_wasLeft m_wasBites m_wasMany m_hasImage m_letterMany m_rowMany m_place m_seed m_kind m_figure m_imageKind m_imageFigure m_wasKind m_wasFigure m_letters m_row m_refused m_numbers m_counted m_few v29.2.2.2 r45 q46) (gV uu1423 uu1425 uu1591 uu6 uu1426) hd_X6_stepsFrom rfl ⟨rfl, rfl⟩ ⟨Nat.le_of_ble_eq_true rfl, Nat.le_of_ble_eq_true rfl⟩ ⟨Nat.le_of_ble_eq_true rfl, Nat.le_of_ble_eq_true rfl⟩ rfl rfl rfl (Nat.le_of_ble_eq_true rfl) rfl dX6_bridge_113 (fun _ => ?_)
                      refine s_aload_n C 117 1 rfl dX6_bridge_116 rfl ?_
                      refine s_iload C 119 4 rfl dX6_bridge_117 rfl ?_
                      obtain ⟨r47, q48, hf⟩ := bn_b hf
                      refine s_callW (T := TX6) (N := 26) (ci := 5) (q0 := 0) (rest := [.int r45]) C 122 (c_X6_stepsFrom l D cI adK adV ad m_left m_bites m_many m_imageLeft m_imageBites m_imageMany m_wasLeft m_wasBites m_wasMany m_hasImage m_letterMany m_rowMany m_place m_seed m_kind m_figure m_imageKind m_imageFigure m_wasKind m_wasFigure m_letters m_row m_refused m_numbers m_counted m_few v29.2.2.1 r47 q48) (gV uu1423 uu1425 uu1591 uu6 uu1426) hd_X6_stepsFrom rfl ⟨rfl, rfl⟩ ⟨Nat.le_of_ble_eq_true rfl, Nat.le_of_ble_eq_true rfl⟩ ⟨Nat.le_of_ble_eq_true rfl, Nat.le_of_ble_eq_true rfl⟩ rfl rfl rfl (Nat.le_of_ble_eq_true rfl) rfl dX6_bridge_119 (fun _ => ?_)
                      refine s_icmp_gt C 130 125 rfl dX6_bridge_122 rfl (fun hc49 => ?_) (fun hc49 => ?_)
                      · replace hf := bn_t hc49 hf
                        refine s_iload C 132 4 rfl dX6_bridge_130 rfl ?_
                        replace hf := bn_i hf
                        exact s_lv [1, 2, 3, 0, 5] rfl (hj (v29.2.2.1 : Int32) hf)
                      · replace hf := bn_f hc49 hf
                        refine s_iload C 127 5 rfl dX6_bridge_125 rfl ?_
                        refine s_goto C 132 dX6_bridge_127 rfl ?_
                        replace hf := bn_i hf
                        exact s_lv [1, 2, 3, 0, 5] rfl (hj (v29.2.2.2 : Int32) hf)
                · refine s_if_eq C 103 98 rfl dX6_bridge_95 rfl (fun hc43 => ?_) (fun hc43 => ?_)
                  · replace hf := jn_t hc43 hf
                    refine s_iload_n C 104 3 rfl dX6_bridge_103 rfl ?_
                    replace hf := jn_i hf
                    exact s_lv [1, 2, 0, 4, 5] rfl (hj (v29.2.1 : Int32) hf)
                  · replace hf := jn_f hc43 hf
                    refine s_iload C 100 5 rfl dX6_bridge_98 rfl ?_
                    refine s_goto C 104 dX6_bridge_100 rfl ?_
                    replace hf := jn_i hf
                    exact s_lv [1, 2, 0, 4, 5] rfl (hj (v29.2.2.2 : Int32) hf)
              · refine s_if_eq C 90 86 rfl dX6_bridge_83 rfl (fun hc41 => ?_) (fun hc41 => ?_)
                · replace hf := jn_t hc41 hf
                  refine s_iconst C 91 rfl dX6_bridge_90 ic_0 ?_
                  replace hf := jn_i hf
                  exact s_lv [1, 2, 4, 5, 6, 0] rfl (hj ((0 : Int32) : Int32) hf)
                · replace hf := jn_f hc41 hf
                  refine s_iconst C 87 rfl dX6_bridge_86 ic_1 ?_
                  refine s_goto C 91 dX6_bridge_87 rfl ?_
                  replace hf := jn_i hf
                  exact s_lv [1, 2, 4, 5, 6, 0] rfl (hj ((1 : Int32) : Int32) hf)
            · refine s_icmp_le C 77 73 rfl dX6_bridge_70 rfl (fun hc39 => ?_) (fun hc39 => ?_)
              · replace hf := jn_t hc39 hf
                refine s_iconst C 78 rfl dX6_bridge_77 ic_0 ?_
                replace hf := jn_i hf
                exact s_lv [0, 1, 2, 3, 4, 5] rfl (hj ((0 : Int32) : Int32) hf)
              · replace hf := jn_f hc39 hf
                refine s_iconst C 74 rfl dX6_bridge_73 ic_1 ?_
                refine s_goto C 78 dX6_bridge_74 rfl ?_
                replace hf := jn_i hf
                exact s_lv [0, 1, 2, 3, 4, 5] rfl (hj ((1 : Int32) : Int32) hf)
          · replace hf := bn_t hc51 hf
            refine s_goto C 134 dX6_bridge_46 rfl ?_
            replace hf := bn_i hf
            exact s_lv [0, 1, 2, 3, 4, 5] rfl (hj ((v29.1, v29.2.1, v29.2.2.1) : Int32 × Int32 × Int32) hf)
  · replace hf := ite_t hc55 hf
    refine s_aload_n C 10 0 rfl dX6_bridge_9 rfl ?_
    refine s_bipush C 12 rfl dX6_bridge_10 bp_m2 ?_
    obtain ⟨r53, q54, hf⟩ := bn_s hf
    refine s_callW (T := TX6) (N := 26) (ci := 5) (q0 := 0) (rest := []) C 15 (c_X6_no l D cI adK adV ad m_left m_bites m_many m_imageLeft m_imageBites m_imageMany m_wasLeft m_wasBites m_wasMany m_hasImage m_letterMany m_rowMany m_place m_seed m_kind m_figure m_imageKind m_imageFigure m_wasKind m_wasFigure m_letters m_row m_refused m_numbers m_counted m_few (-2 : Int32) r53 q54) (gV uu1070 uu1072 uu1571 uu6 uu1073) hd_X6_no rfl ⟨rfl, rfl⟩ ⟨Nat.le_of_ble_eq_true rfl, Nat.le_of_ble_eq_true rfl⟩ ⟨Nat.le_of_ble_eq_true rfl, Nat.le_of_ble_eq_true rfl⟩ rfl rfl rfl (Nat.le_of_ble_eq_true rfl) rfl dX6_bridge_12 (fun _ => ?_)
    obtain rfl := Option.some.inj hf
    exact s_iret C (fun i => i) hr hlk rfl rfl dX6_bridge_15


theorem hd_X6_two : yX6_two.cls = RX6 ∧ yX6_two.cls ≠ "java/lang/invoke/MethodHandle" ∧ yX6_two.cls ≠ "java/lang/invoke/VarHandle" ∧ (parseMethodDescriptor yX6_two.desc).map (fun d => d.parameters.length) = some 2 := by decide +kernel
set_option maxHeartbeats 4000000 in
set_option maxRecDepth 100000 in
theorem c_X6_two (l : Launch) (D : va_G) (cI : ClassId) (adK adV : Nat → Nat) (ad : Nat → Nat) (m_left : Int32) (m_bites : Int32) (m_many : Int32) (m_imageLeft : Int32) (m_imageBites : Int32) (m_imageMany : Int32) (m_wasLeft : Int32) (m_wasBites : Int32) (m_wasMany : Int32) (m_hasImage : Int32) (m_letterMany : Int32) (m_rowMany : Int32) (m_place : Int32) (m_seed : Int32) (m_kind : (Nat → Int32)) (m_figure : (Nat → Int32)) (m_imageKind : (Nat → Int32)) (m_imageFigure : (Nat → Int32)) (m_wasKind : (Nat → Int32)) (m_wasFigure : (Nat → Int32)) (m_letters : (Nat → Int32)) (m_row : (Nat → Int32)) (m_refused : (Nat → Int32)) (m_numbers : (Nat → Int32)) (m_counted : (Nat → Int32)) (m_few : (Nat → Int32)) (a1 : Int32) (a2 : Int32) (o : Int32 × (Nat → Int32)) (hf : f_X6_two m_left m_many m_kind m_figure m_refused a1 a2 = some o) : Ct l D cI adK adV yX6_two (wy yX6_two cX6_two 6 (some .int)) { frames := 7, cells := 0, slots := 0, locals := 171 } 0 0 [.ref (ad 0), .int a1, .int a2] (wM ad cI m_left m_bites m_many m_imageLeft m_imageBites m_imageMany m_wasLeft m_wasBites m_wasMany m_hasImage m_letterMany m_rowMany m_place m_seed m_kind m_figure m_imageKind m_imageFigure m_wasKind m_wasFigure m_letters m_row m_refused m_numbers m_counted m_few) (fun _ => (wM ad cI m_left m_bites m_many m_imageLeft m_imageBites m_imageMany m_wasLeft m_wasBites m_wasMany m_hasImage m_letterMany m_rowMany m_place m_seed m_kind m_figure m_imageKind m_imageFigure m_wasKind m_wasFigure m_letters m_row o.2 m_numbers m_counted m_few)) (some (.int o.1)) := by
  refine Ct.of (cc := cX6_two) (nL := 6) (ret := (some .int)) (own := RX6) (by decide) (Nat.le_of_ble_eq_true rfl) rfl ?_
  intro p e s m args below meth c A C hr hlk hnm
  refine s_lv (lv1 := [(0, .ref (ad 0)), (1, .int a1), (2, .int a2)]) [0, 1, 2] rfl ?_
  unfold f_X6_two at hf
  refine s_aload_n C 1 0 rfl dX6_two_0 rfl ?_
  refine s_iload_n C 2 1 rfl dX6_two_1 rfl ?_
  refine s_iload_n C 3 2 rfl dX6_two_2 rfl ?_
  obtain ⟨r1, q2, hf⟩ := bn_s hf
  refine s_callW (T := TX6) (N := 26) (ci := 5) (q0 := 0) (rest := []) C 6 (c_X6_areTwo l D cI adK adV ad m_left m_bites m_many m_imageLeft m_imageBites m_imageMany m_wasLeft m_wasBites m_wasMany m_hasImage m_letterMany m_rowMany m_place m_seed m_kind m_figure m_imageKind m_imageFigure m_wasKind m_wasFigure m_letters m_row m_refused m_numbers m_counted m_few a1 a2 r1 q2) (gV uu1401 uu1403 uu1589 uu6 uu1404) hd_X6_areTwo rfl ⟨rfl, rfl⟩ ⟨Nat.le_of_ble_eq_true rfl, Nat.le_of_ble_eq_true rfl⟩ ⟨Nat.le_of_ble_eq_true rfl, Nat.le_of_ble_eq_true rfl⟩ rfl rfl rfl (Nat.le_of_ble_eq_true rfl) rfl dX6_two_3 (fun _ => ?_)
  refine s_if_ne C 15 9 rfl dX6_two_6 rfl (fun hc29 => ?_) (fun hc29 => ?_)
  · replace hf := ite_f hc29 hf
    refine s_iconst C 16 rfl dX6_two_15 ic_0 ?_
    refine s_istore_n (lv1 := [(3, .int (0 : Int32)), (0, .ref (ad 0)), (1, .int a1), (2, .int a2)]) C 17 3 rfl dX6_two_16 rfl (Nat.le_of_ble_eq_true rfl) rfl ?_
    refine s_lv (lv1 := [(0, .ref (ad 0)), (1, .int a1), (2, .int a2), (3, .int (0 : Int32))]) [1, 2, 3, 0] rfl ?_
    refine s_loop (α := Int32) (fun n v14 => f_X6_two_17 a1 a2 m_left m_kind m_figure m_refused n v14) 17 (fun v14 => [(0, .ref (ad 0)), (1, .int a1), (2, .int a2), (3, .int v14)]) (fun v14 => (wM ad cI m_left m_bites m_many m_imageLeft m_imageBites m_imageMany m_wasLeft m_wasBites m_wasMany m_hasImage m_letterMany m_rowMany m_place m_seed m_kind m_figure m_imageKind m_imageFigure m_wasKind m_wasFigure m_letters m_row m_refused m_numbers m_counted m_few)) 1000 (0 : Int32) hf (fun v14 hf => by simp only [f_X6_two_17] at hf; exact absurd hf (by simp)) (fun n ih15 v14 hf => ?_)
    replace hf := (f_X6_two_17_s _ _ _ _ _ _ _ _).symm.trans hf
    refine s_iload_n C 18 3 rfl dX6_two_17 rfl ?_
    refine s_iconst C 19 rfl dX6_two_18 ic_4 ?_
    refine s_icmp_ge C 101 22 rfl dX6_two_19 rfl (fun hc26 => ?_) (fun hc26 => ?_)
    · replace hf := ite_t hc26 hf
      refine s_bipush C 103 rfl dX6_two_101 bp_m9 ?_
      obtain rfl := Option.some.inj hf
      exact s_iret C (fun i => i) hr hlk rfl rfl dX6_two_103
    · replace hf := ite_f hc26 hf
      refine s_iload_n C 23 3 rfl dX6_two_22 rfl ?_
      refine s_iconst C 24 rfl dX6_two_23 ic_2 ?_
      refine s_idiv C 25 rfl dX6_two_24 (by decide) ?_
      refine s_istore (lv1 := [(4, .int (v14 / (2 : Int32))), (0, .ref (ad 0)), (1, .int a1), (2, .int a2), (3, .int v14)]) C 27 4 rfl dX6_two_25 (Nat.le_of_ble_eq_true rfl) rfl ?_
      refine s_iload_n C 28 4 rfl dX6_two_27 rfl ?_
      refine s_iconst C 29 rfl dX6_two_28 ic_2 ?_
      refine s_irem C 30 rfl dX6_two_29 (by decide) ?_
      refine s_istore (lv1 := [(5, .int (jrem v14 (2 : Int32))), (4, .int (v14 / (2 : Int32))), (0, .ref (ad 0)), (1, .int a1), (2, .int a2), (3, .int v14)]) C 32 5 rfl dX6_two_30 (Nat.le_of_ble_eq_true rfl) rfl ?_
      refine s_aload_n C 33 2 rfl dX6_two_32 rfl ?_
      refine s_iload_n C 34 3 rfl dX6_two_33 rfl ?_
      refine s_iload_n C 35 3 rfl dX6_two_34 rfl ?_
      refine s_iconst C 36 rfl dX6_two_35 ic_1 ?_
      refine s_iload C 38 1 rfl dX6_two_36 rfl ?_
      refine s_isub C 39 rfl dX6_two_38 ?_
      refine s_iload_n C 40 4 rfl dX6_two_39 rfl ?_
      refine s_iload C 42 0 rfl dX6_two_40 rfl ?_
      obtain ⟨r16, q17, hf⟩ := bn_s hf
      refine s_callW (T := TX6) (N := 26) (ci := 5) (q0 := 0) (rest := []) C 45 (c_X6_shareBoth l D cI adK adV ad m_left m_bites m_many m_imageLeft m_imageBites m_imageMany m_wasLeft m_wasBites m_wasMany m_hasImage m_letterMany m_rowMany m_place m_seed m_kind m_figure m_imageKind m_imageFigure m_wasKind m_wasFigure m_letters m_row m_refused m_numbers m_counted m_few a1 a1 ((1 : Int32) - (v14 / (2 : Int32))) a2 (jrem v14 (2 : Int32)) r16 q17) (gV uu1434 uu1436 uu1592 uu6 uu1437) hd_X6_shareBoth rfl ⟨rfl, rfl⟩ ⟨Nat.le_of_ble_eq_true rfl, Nat.le_of_ble_eq_true rfl⟩ ⟨Nat.le_of_ble_eq_true rfl, Nat.le_of_ble_eq_true rfl⟩ rfl rfl rfl (Nat.le_of_ble_eq_true rfl) rfl dX6_two_42 (fun _ => ?_)
      refine s_aload_n C 46 2 rfl dX6_two_45 rfl ?_
      refine s_iload_n C 47 3 rfl dX6_two_46 rfl ?_
      refine s_iload_n C 48 3 rfl dX6_two_47 rfl ?_
      refine s_iload C 50 1 rfl dX6_two_48 rfl ?_
      refine s_iload_n C 51 4 rfl dX6_two_50 rfl ?_
      refine s_iload C 53 0 rfl dX6_two_51 rfl ?_
      obtain ⟨r18, q19, hf⟩ := bn_s hf
      refine s_callW (T := TX6) (N := 26) (ci := 5) (q0 := 0) (rest := [.int r16]) C 56 (c_X6_shareBoth l D cI adK adV ad m_left m_bites m_many m_imageLeft m_imageBites m_imageMany m_wasLeft m_wasBites m_wasMany m_hasImage m_letterMany m_rowMany m_place m_seed m_kind m_figure m_imageKind m_imageFigure m_wasKind m_wasFigure m_letters m_row m_refused m_numbers m_counted m_few a1 a1 (v14 / (2 : Int32)) a2 (jrem v14 (2 : Int32)) r18 q19) (gV uu1434 uu1436 uu1592 uu6 uu1437) hd_X6_shareBoth rfl ⟨rfl, rfl⟩ ⟨Nat.le_of_ble_eq_true rfl, Nat.le_of_ble_eq_true rfl⟩ ⟨Nat.le_of_ble_eq_true rfl, Nat.le_of_ble_eq_true rfl⟩ rfl rfl rfl (Nat.le_of_ble_eq_true rfl) rfl dX6_two_53 (fun _ => ?_)
      refine s_icmp_gt C 95 59 rfl dX6_two_56 rfl (fun hc25 => ?_) (fun hc25 => ?_)
      · replace hf := ite_t hc25 hf
        refine s_iinc (lv1 := [(3, .int (v14 + (1 : Int32))), (5, .int (jrem v14 (2 : Int32))), (4, .int (v14 / (2 : Int32))), (0, .ref (ad 0)), (1, .int a1), (2, .int a2)]) C 98 3 5 rfl dX6_two_95 rfl ic_1 (Nat.le_of_ble_eq_true rfl) rfl ?_
        refine s_goto C 17 dX6_two_98 rfl ?_
        exact s_lv [3, 4, 5, 0] rfl (ih15 (v14 + (1 : Int32) : Int32) hf)
      · replace hf := ite_f hc25 hf
        refine s_aload_n C 60 2 rfl dX6_two_59 rfl ?_
        refine s_iload_n C 61 4 rfl dX6_two_60 rfl ?_
        refine s_iload_n C 62 3 rfl dX6_two_61 rfl ?_
        refine s_iload C 64 1 rfl dX6_two_62 rfl ?_
        refine s_iload_n C 65 4 rfl dX6_two_64 rfl ?_
        refine s_iconst C 66 rfl dX6_two_65 ic_1 ?_
        refine s_iload C 68 0 rfl dX6_two_66 rfl ?_
        refine s_isub C 69 rfl dX6_two_68 ?_
        obtain ⟨r20, q21, hf⟩ := bn_s hf
        refine s_callW (T := TX6) (N := 26) (ci := 5) (q0 := 0) (rest := []) C 72 (c_X6_shareBoth l D cI adK adV ad m_left m_bites m_many m_imageLeft m_imageBites m_imageMany m_wasLeft m_wasBites m_wasMany m_hasImage m_letterMany m_rowMany m_place m_seed m_kind m_figure m_imageKind m_imageFigure m_wasKind m_wasFigure m_letters m_row m_refused m_numbers m_counted m_few a2 a1 (v14 / (2 : Int32)) a2 ((1 : Int32) - (jrem v14 (2 : Int32))) r20 q21) (gV uu1434 uu1436 uu1592 uu6 uu1437) hd_X6_shareBoth rfl ⟨rfl, rfl⟩ ⟨Nat.le_of_ble_eq_true rfl, Nat.le_of_ble_eq_true rfl⟩ ⟨Nat.le_of_ble_eq_true rfl, Nat.le_of_ble_eq_true rfl⟩ rfl rfl rfl (Nat.le_of_ble_eq_true rfl) rfl dX6_two_69 (fun _ => ?_)
        refine s_aload_n C 73 2 rfl dX6_two_72 rfl ?_
        refine s_iload_n C 74 4 rfl dX6_two_73 rfl ?_
        refine s_iload_n C 75 3 rfl dX6_two_74 rfl ?_
        refine s_iload C 77 1 rfl dX6_two_75 rfl ?_
        refine s_iload_n C 78 4 rfl dX6_two_77 rfl ?_
        refine s_iload C 80 0 rfl dX6_two_78 rfl ?_
        obtain ⟨r22, q23, hf⟩ := bn_s hf
        refine s_callW (T := TX6) (N := 26) (ci := 5) (q0 := 0) (rest := [.int r20]) C 83 (c_X6_shareBoth l D cI adK adV ad m_left m_bites m_many m_imageLeft m_imageBites m_imageMany m_wasLeft m_wasBites m_wasMany m_hasImage m_letterMany m_rowMany m_place m_seed m_kind m_figure m_imageKind m_imageFigure m_wasKind m_wasFigure m_letters m_row m_refused m_numbers m_counted m_few a2 a1 (v14 / (2 : Int32)) a2 (jrem v14 (2 : Int32)) r22 q23) (gV uu1434 uu1436 uu1592 uu6 uu1437) hd_X6_shareBoth rfl ⟨rfl, rfl⟩ ⟨Nat.le_of_ble_eq_true rfl, Nat.le_of_ble_eq_true rfl⟩ ⟨Nat.le_of_ble_eq_true rfl, Nat.le_of_ble_eq_true rfl⟩ rfl rfl rfl (Nat.le_of_ble_eq_true rfl) rfl dX6_two_80 (fun _ => ?_)
        refine s_icmp_gt C 95 86 rfl dX6_two_83 rfl (fun hc24 => ?_) (fun hc24 => ?_)
        · replace hf := ite_t hc24 hf
          refine s_iinc (lv1 := [(3, .int (v14 + (1 : Int32))), (5, .int (jrem v14 (2 : Int32))), (4, .int (v14 / (2 : Int32))), (0, .ref (ad 0)), (1, .int a1), (2, .int a2)]) C 98 3 5 rfl dX6_two_95 rfl ic_1 (Nat.le_of_ble_eq_true rfl) rfl ?_
          refine s_goto C 17 dX6_two_98 rfl ?_
          exact s_lv [3, 4, 5, 0] rfl (ih15 (v14 + (1 : Int32) : Int32) hf)
        · replace hf := ite_f hc24 hf
          refine s_bipush C 88 rfl dX6_two_86 bp_10 ?_
          refine s_iload C 90 1 rfl dX6_two_88 rfl ?_
          refine s_imul C 91 rfl dX6_two_90 ?_
          refine s_iload C 93 0 rfl dX6_two_91 rfl ?_
          refine s_iadd C 94 rfl dX6_two_93 ?_
          obtain rfl := Option.some.inj hf
          exact s_iret C (fun i => i) hr hlk rfl rfl dX6_two_94
  · replace hf := ite_t hc29 hf
    refine s_aload_n C 10 0 rfl dX6_two_9 rfl ?_
    refine s_iconst C 11 rfl dX6_two_10 ic_m1 ?_
    obtain ⟨r27, q28, hf⟩ := bn_s hf
    refine s_callW (T := TX6) (N := 26) (ci := 5) (q0 := 0) (rest := []) C 14 (c_X6_no l D cI adK adV ad m_left m_bites m_many m_imageLeft m_imageBites m_imageMany m_wasLeft m_wasBites m_wasMany m_hasImage m_letterMany m_rowMany m_place m_seed m_kind m_figure m_imageKind m_imageFigure m_wasKind m_wasFigure m_letters m_row m_refused m_numbers m_counted m_few (-1 : Int32) r27 q28) (gV uu1070 uu1072 uu1571 uu6 uu1073) hd_X6_no rfl ⟨rfl, rfl⟩ ⟨Nat.le_of_ble_eq_true rfl, Nat.le_of_ble_eq_true rfl⟩ ⟨Nat.le_of_ble_eq_true rfl, Nat.le_of_ble_eq_true rfl⟩ rfl rfl rfl (Nat.le_of_ble_eq_true rfl) rfl dX6_two_11 (fun _ => ?_)
    obtain rfl := Option.some.inj hf
    exact s_iret C (fun i => i) hr hlk rfl rfl dX6_two_14


theorem hd_X6_chance : yX6_chance.cls = RX6 ∧ yX6_chance.cls ≠ "java/lang/invoke/MethodHandle" ∧ yX6_chance.cls ≠ "java/lang/invoke/VarHandle" ∧ (parseMethodDescriptor yX6_chance.desc).map (fun d => d.parameters.length) = some 4 := by decide +kernel
set_option maxHeartbeats 4000000 in
set_option maxRecDepth 100000 in
theorem c_X6_chance (l : Launch) (D : va_G) (cI : ClassId) (adK adV : Nat → Nat) (ad : Nat → Nat) (m_left : Int32) (m_bites : Int32) (m_many : Int32) (m_imageLeft : Int32) (m_imageBites : Int32) (m_imageMany : Int32) (m_wasLeft : Int32) (m_wasBites : Int32) (m_wasMany : Int32) (m_hasImage : Int32) (m_letterMany : Int32) (m_rowMany : Int32) (m_place : Int32) (m_seed : Int32) (m_kind : (Nat → Int32)) (m_figure : (Nat → Int32)) (m_imageKind : (Nat → Int32)) (m_imageFigure : (Nat → Int32)) (m_wasKind : (Nat → Int32)) (m_wasFigure : (Nat → Int32)) (m_letters : (Nat → Int32)) (m_row : (Nat → Int32)) (m_refused : (Nat → Int32)) (m_numbers : (Nat → Int32)) (m_counted : (Nat → Int32)) (m_few : (Nat → Int32)) (a1 : Int32) (a2 : Int32) (a3 : Int32) (a4 : Int32) (o : Int64 × (Nat → Int32)) (hf : f_X6_chance m_left m_many m_kind m_figure m_refused a1 a2 a3 a4 = some o) : Ct l D cI adK adV yX6_chance (wy yX6_chance cX6_chance 8 (some .long)) { frames := 8, cells := 0, slots := 0, locals := 198 } 0 0 [.ref (ad 0), .int a1, .int a2, .int a3, .int a4] (wM ad cI m_left m_bites m_many m_imageLeft m_imageBites m_imageMany m_wasLeft m_wasBites m_wasMany m_hasImage m_letterMany m_rowMany m_place m_seed m_kind m_figure m_imageKind m_imageFigure m_wasKind m_wasFigure m_letters m_row m_refused m_numbers m_counted m_few) (fun _ => (wM ad cI m_left m_bites m_many m_imageLeft m_imageBites m_imageMany m_wasLeft m_wasBites m_wasMany m_hasImage m_letterMany m_rowMany m_place m_seed m_kind m_figure m_imageKind m_imageFigure m_wasKind m_wasFigure m_letters m_row o.2 m_numbers m_counted m_few)) (some (.long o.1)) := by
  refine Ct.of (cc := cX6_chance) (nL := 8) (ret := (some .long)) (own := RX6) (by decide) (Nat.le_of_ble_eq_true rfl) rfl ?_
  intro p e s m args below meth c A C hr hlk hnm
  refine s_lv (lv1 := [(0, .ref (ad 0)), (1, .int a1), (2, .int a2), (3, .int a3), (4, .int a4)]) [0, 1, 2, 3, 4] rfl ?_
  unfold f_X6_chance at hf
  refine s_aload_n C 1 0 rfl dX6_chance_0 rfl ?_
  refine s_iload_n C 2 1 rfl dX6_chance_1 rfl ?_
  obtain ⟨r1, q2, hf⟩ := bn_s hf
  refine s_callW (T := TX6) (N := 26) (ci := 5) (q0 := 0) (rest := []) C 5 (c_X6_isHeir l D cI adK adV ad m_left m_bites m_many m_imageLeft m_imageBites m_imageMany m_wasLeft m_wasBites m_wasMany m_hasImage m_letterMany m_rowMany m_place m_seed m_kind m_figure m_imageKind m_imageFigure m_wasKind m_wasFigure m_letters m_row m_refused m_numbers m_counted m_few a1 r1 q2) (gV uu1193 uu1195 uu1581 uu6 uu1196) hd_X6_isHeir rfl ⟨rfl, rfl⟩ ⟨Nat.le_of_ble_eq_true rfl, Nat.le_of_ble_eq_true rfl⟩ ⟨Nat.le_of_ble_eq_true rfl, Nat.le_of_ble_eq_true rfl⟩ rfl rfl rfl (Nat.le_of_ble_eq_true rfl) rfl dX6_chance_2 (fun _ => ?_)
  refine s_if_ne C 14 8 rfl dX6_chance_5 rfl (fun hc42 => ?_) (fun hc42 => ?_)
  · replace hf := ite_f hc42 hf
    refine s_iload_n C 15 2 rfl dX6_chance_14 rfl ?_
    refine s_if_lt C 22 18 rfl dX6_chance_15 rfl (fun hc39 => ?_) (fun hc39 => ?_)
    · replace hf := ite_t hc39 hf
      refine s_aload_n C 23 0 rfl dX6_chance_22 rfl ?_
      refine s_bipush C 25 rfl dX6_chance_23 bp_m4 ?_
      obtain ⟨r3, q4, hf⟩ := bn_s hf
      refine s_callW (T := TX6) (N := 26) (ci := 5) (q0 := 0) (rest := []) C 28 (c_X6_noWide l D cI adK adV ad m_left m_bites m_many m_imageLeft m_imageBites m_imageMany m_wasLeft m_wasBites m_wasMany m_hasImage m_letterMany m_rowMany m_place m_seed m_kind m_figure m_imageKind m_imageFigure m_wasKind m_wasFigure m_letters m_row m_refused m_numbers m_counted m_few (-4 : Int32) r3 q4) (gV uu1450 uu1452 uu1594 uu6 uu1453) hd_X6_noWide rfl ⟨rfl, rfl⟩ ⟨Nat.le_of_ble_eq_true rfl, Nat.le_of_ble_eq_true rfl⟩ ⟨Nat.le_of_ble_eq_true rfl, Nat.le_of_ble_eq_true rfl⟩ rfl rfl rfl (Nat.le_of_ble_eq_true rfl) rfl dX6_chance_25 (fun _ => ?_)
      obtain rfl := Option.some.inj hf
      exact s_lret C (fun i => i) hr hlk rfl rfl dX6_chance_28
    · replace hf := ite_f hc39 hf
      refine s_iload_n C 19 3 rfl dX6_chance_18 rfl ?_
      refine s_if_ge C 29 22 rfl dX6_chance_19 rfl (fun hc38 => ?_) (fun hc38 => ?_)
      · replace hf := ite_t hc38 hf
        refine s_iload_n C 30 2 rfl dX6_chance_29 rfl ?_
        refine s_iconst C 31 rfl dX6_chance_30 ic_2 ?_
        refine s_icmp_gt C 40 34 rfl dX6_chance_31 rfl (fun hc35 => ?_) (fun hc35 => ?_)
        · replace hf := ite_t hc35 hf
          refine s_aload_n C 41 0 rfl dX6_chance_40 rfl ?_
          refine s_bipush C 43 rfl dX6_chance_41 bp_m6 ?_
          obtain ⟨r5, q6, hf⟩ := bn_s hf
          refine s_callW (T := TX6) (N := 26) (ci := 5) (q0 := 0) (rest := []) C 46 (c_X6_noWide l D cI adK adV ad m_left m_bites m_many m_imageLeft m_imageBites m_imageMany m_wasLeft m_wasBites m_wasMany m_hasImage m_letterMany m_rowMany m_place m_seed m_kind m_figure m_imageKind m_imageFigure m_wasKind m_wasFigure m_letters m_row m_refused m_numbers m_counted m_few (-6 : Int32) r5 q6) (gV uu1450 uu1452 uu1594 uu6 uu1453) hd_X6_noWide rfl ⟨rfl, rfl⟩ ⟨Nat.le_of_ble_eq_true rfl, Nat.le_of_ble_eq_true rfl⟩ ⟨Nat.le_of_ble_eq_true rfl, Nat.le_of_ble_eq_true rfl⟩ rfl rfl rfl (Nat.le_of_ble_eq_true rfl) rfl dX6_chance_43 (fun _ => ?_)
          obtain rfl := Option.some.inj hf
          exact s_lret C (fun i => i) hr hlk rfl rfl dX6_chance_46
        · replace hf := ite_f hc35 hf
          refine s_iload_n C 35 3 rfl dX6_chance_34 rfl ?_
          refine s_bipush C 37 rfl dX6_chance_35 bp_40 ?_
          refine s_icmp_le C 47 40 rfl dX6_chance_37 rfl (fun hc34 => ?_) (fun hc34 => ?_)
          · replace hf := ite_t hc34 hf
            refine s_iload C 49 4 rfl dX6_chance_47 rfl ?_
            refine s_iconst C 50 rfl dX6_chance_49 ic_0 ?_
            refine s_iconst C 51 rfl dX6_chance_50 ic_1 ?_
            obtain ⟨r7, q8, hf⟩ := bn_s hf
            refine s_callS0 (host := "") (rest := []) C 54 (c_X6_isIn l D cI adK adV a4 (0 : Int32) (1 : Int32) r7 q8) (gS uu1106 uu1108 uu6 uu1109) hd_X6_isIn rfl ⟨rfl, rfl⟩ ⟨Nat.le_of_ble_eq_true rfl, Nat.le_of_ble_eq_true rfl⟩ ⟨Nat.le_of_ble_eq_true rfl, Nat.le_of_ble_eq_true rfl⟩ rfl (Nat.le_of_ble_eq_true rfl) rfl dX6_chance_51 ?_
            refine s_if_ne C 64 57 rfl dX6_chance_54 rfl (fun hc31 => ?_) (fun hc31 => ?_)
            · replace hf := ite_f hc31 hf
              refine s_lconst C 65 rfl dX6_chance_64 lc_1 ?_
              refine s_lstore (lv1 := [(5, .long (1 : Int64)), (0, .ref (ad 0)), (1, .int a1), (2, .int a2), (3, .int a3), (4, .int a4)]) C 67 5 rfl dX6_chance_65 (Nat.le_of_ble_eq_true rfl) rfl ?_
              refine s_iconst C 68 rfl dX6_chance_67 ic_0 ?_
              refine s_istore (lv1 := [(7, .int (0 : Int32)), (5, .long (1 : Int64)), (0, .ref (ad 0)), (1, .int a1), (2, .int a2), (3, .int a3), (4, .int a4)]) C 70 7 rfl dX6_chance_68 (Nat.le_of_ble_eq_true rfl) rfl ?_
              refine s_lv (lv1 := [(0, .ref (ad 0)), (1, .int a1), (2, .int a2), (3, .int a3), (4, .int a4), (5, .long (1 : Int64)), (7, .int (0 : Int32))]) [2, 3, 4, 5, 6, 1, 0] rfl ?_
              refine s_kont (γ := Int64) (o := o) (fun KQ => f_X6_chance_70 a2 m_left KQ 1000 (1 : Int64) (0 : Int32) = some o) 110 (fun e16 => [(0, .ref (ad 0)), (1, .int a1), (2, .int a2), (3, .int a3), (4, .int a4), (5, .long e16)]) (fun e16 => []) (fun e16 => (wM ad cI m_left m_bites m_many m_imageLeft m_imageBites m_imageMany m_wasLeft m_wasBites m_wasMany m_hasImage m_letterMany m_rowMany m_place m_seed m_kind m_figure m_imageKind m_imageFigure m_wasKind m_wasFigure m_letters m_row m_refused m_numbers m_counted m_few)) hf (fun e16 hf => ?_) (fun k15 hk15 hf => ?_)
              · refine s_aload_n C 111 0 rfl dX6_chance_110 rfl ?_
                refine s_aload_n C 112 0 rfl dX6_chance_111 rfl ?_
                refine s_get (C1 := RX6) (T := TX6) (N := 26) (ci := 5) C 115 0 0 uX6 rfl rfl (Nat.le_of_ble_eq_true rfl) uu986 rfl rfl rfl dX6_chance_112 ?_
                refine s_iload_n C 116 1 rfl dX6_chance_115 rfl ?_
                refine s_iload_n C 117 3 rfl dX6_chance_116 rfl ?_
                refine s_iload_n C 118 2 rfl dX6_chance_117 rfl ?_
                obtain ⟨r17, q18, hf⟩ := bn_s hf
                refine s_callW (T := TX6) (N := 26) (ci := 5) (q0 := 0) (rest := []) C 121 (c_X6_waysFor_2 l D cI adK adV ad m_left m_bites m_many m_imageLeft m_imageBites m_imageMany m_wasLeft m_wasBites m_wasMany m_hasImage m_letterMany m_rowMany m_place m_seed m_kind m_figure m_imageKind m_imageFigure m_wasKind m_wasFigure m_letters m_row m_refused m_numbers m_counted m_few m_left a1 a3 a2 r17 q18) (gV uu1457 uu1459 uu1595 uu6 uu1460) hd_X6_waysFor rfl ⟨rfl, rfl⟩ ⟨Nat.le_of_ble_eq_true rfl, Nat.le_of_ble_eq_true rfl⟩ ⟨Nat.le_of_ble_eq_true rfl, Nat.le_of_ble_eq_true rfl⟩ rfl rfl rfl (Nat.le_of_ble_eq_true rfl) rfl dX6_chance_118 (fun _ => ?_)
                refine s_lload C 123 5 rfl dX6_chance_121 rfl ?_
                refine s_iload C 125 4 rfl dX6_chance_123 rfl ?_
                obtain ⟨r19, q20, hf⟩ := bn_s hf
                refine s_callS0 (host := "") (rest := []) C 128 (c_X6_partOf l D cI adK adV r17 e16 a4 r19 q20) (gS uu1462 uu1464 uu6 uu1465) hd_X6_partOf rfl ⟨rfl, rfl⟩ ⟨Nat.le_of_ble_eq_true rfl, Nat.le_of_ble_eq_true rfl⟩ ⟨Nat.le_of_ble_eq_true rfl, Nat.le_of_ble_eq_true rfl⟩ rfl (Nat.le_of_ble_eq_true rfl) rfl dX6_chance_125 ?_
                obtain rfl := Option.some.inj hf
                exact s_lret C (fun i => i) hr hlk rfl rfl dX6_chance_128
              · skip
                refine s_loop (α := Int64 × Int32) (fun n v21 => f_X6_chance_70 a2 m_left k15 n v21.1 v21.2) 70 (fun v21 => [(0, .ref (ad 0)), (1, .int a1), (2, .int a2), (3, .int a3), (4, .int a4), (5, .long v21.1), (7, .int v21.2)]) (fun v21 => (wM ad cI m_left m_bites m_many m_imageLeft m_imageBites m_imageMany m_wasLeft m_wasBites m_wasMany m_hasImage m_letterMany m_rowMany m_place m_seed m_kind m_figure m_imageKind m_imageFigure m_wasKind m_wasFigure m_letters m_row m_refused m_numbers m_counted m_few)) 1000 ((1 : Int64), (0 : Int32)) hf (fun v21 hf => by simp only [f_X6_chance_70] at hf; exact absurd hf (by simp)) (fun n ih22 v21 hf => ?_)
                replace hf := (f_X6_chance_70_s _ _ _ _ _ _).symm.trans hf
                refine s_iload C 72 6 rfl dX6_chance_70 rfl ?_
                refine s_iload_n C 73 2 rfl dX6_chance_72 rfl ?_
                refine s_icmp_ge C 110 76 rfl dX6_chance_73 rfl (fun hc28 => ?_) (fun hc28 => ?_)
                · replace hf := ite_t hc28 hf
                  exact s_lv [0, 1, 2, 3, 4, 5] rfl (hk15 (v21.1 : Int64) hf)
                · replace hf := ite_f hc28 hf
                  refine s_aload_n C 77 0 rfl dX6_chance_76 rfl ?_
                  refine s_get (C1 := RX6) (T := TX6) (N := 26) (ci := 5) C 80 0 0 uX6 rfl rfl (Nat.le_of_ble_eq_true rfl) uu986 rfl rfl rfl dX6_chance_77 ?_
                  obtain ⟨r23, q24, hf⟩ := bn_s hf
                  refine s_callS0 (host := "") (rest := []) C 83 (c_X6_bits l D cI adK adV m_left r23 q24) (gS uu1177 uu1179 uu6 uu1180) hd_X6_bits rfl ⟨rfl, rfl⟩ ⟨Nat.le_of_ble_eq_true rfl, Nat.le_of_ble_eq_true rfl⟩ ⟨Nat.le_of_ble_eq_true rfl, Nat.le_of_ble_eq_true rfl⟩ rfl (Nat.le_of_ble_eq_true rfl) rfl dX6_chance_80 ?_
                  refine s_iload C 85 6 rfl dX6_chance_83 rfl ?_
                  refine s_icmp_le C 110 88 rfl dX6_chance_85 rfl (fun hc27 => ?_) (fun hc27 => ?_)
                  · replace hf := ite_t hc27 hf
                    exact s_lv [0, 1, 2, 3, 4, 5] rfl (hk15 (v21.1 : Int64) hf)
                  · replace hf := ite_f hc27 hf
                    refine s_lload C 90 5 rfl dX6_chance_88 rfl ?_
                    refine s_aload_n C 91 0 rfl dX6_chance_90 rfl ?_
                    refine s_get (C1 := RX6) (T := TX6) (N := 26) (ci := 5) C 94 0 0 uX6 rfl rfl (Nat.le_of_ble_eq_true rfl) uu986 rfl rfl rfl dX6_chance_91 ?_
                    obtain ⟨r25, q26, hf⟩ := bn_s hf
                    refine s_callS0 (host := "") (rest := [.long v21.1]) C 97 (c_X6_bits l D cI adK adV m_left r25 q26) (gS uu1177 uu1179 uu6 uu1180) hd_X6_bits rfl ⟨rfl, rfl⟩ ⟨Nat.le_of_ble_eq_true rfl, Nat.le_of_ble_eq_true rfl⟩ ⟨Nat.le_of_ble_eq_true rfl, Nat.le_of_ble_eq_true rfl⟩ rfl (Nat.le_of_ble_eq_true rfl) rfl dX6_chance_94 ?_
                    refine s_iload C 99 6 rfl dX6_chance_97 rfl ?_
                    refine s_isub C 100 rfl dX6_chance_99 ?_
                    refine s_i2l C 101 rfl dX6_chance_100 ?_
                    refine s_lmul C 102 rfl dX6_chance_101 ?_
                    refine s_lstore (lv1 := [(5, .long (v21.1 * ((r25 - v21.2).toInt64))), (0, .ref (ad 0)), (1, .int a1), (2, .int a2), (3, .int a3), (4, .int a4), (7, .int v21.2)]) C 104 5 rfl dX6_chance_102 (Nat.le_of_ble_eq_true rfl) rfl ?_
                    refine s_iinc (lv1 := [(7, .int (v21.2 + (1 : Int32))), (5, .long (v21.1 * ((r25 - v21.2).toInt64))), (0, .ref (ad 0)), (1, .int a1), (2, .int a2), (3, .int a3), (4, .int a4)]) C 107 7 6 rfl dX6_chance_104 rfl ic_1 (Nat.le_of_ble_eq_true rfl) rfl ?_
                    refine s_goto C 70 dX6_chance_107 rfl ?_
                    exact s_lv [2, 3, 4, 5, 6, 1, 0] rfl (ih22 ((v21.1 * ((r25 - v21.2).toInt64), v21.2 + (1 : Int32)) : Int64 × Int32) hf)
            · replace hf := ite_t hc31 hf
              refine s_aload_n C 58 0 rfl dX6_chance_57 rfl ?_
              refine s_bipush C 60 rfl dX6_chance_58 bp_m2 ?_
              obtain ⟨r29, q30, hf⟩ := bn_s hf
              refine s_callW (T := TX6) (N := 26) (ci := 5) (q0 := 0) (rest := []) C 63 (c_X6_noWide l D cI adK adV ad m_left m_bites m_many m_imageLeft m_imageBites m_imageMany m_wasLeft m_wasBites m_wasMany m_hasImage m_letterMany m_rowMany m_place m_seed m_kind m_figure m_imageKind m_imageFigure m_wasKind m_wasFigure m_letters m_row m_refused m_numbers m_counted m_few (-2 : Int32) r29 q30) (gV uu1450 uu1452 uu1594 uu6 uu1453) hd_X6_noWide rfl ⟨rfl, rfl⟩ ⟨Nat.le_of_ble_eq_true rfl, Nat.le_of_ble_eq_true rfl⟩ ⟨Nat.le_of_ble_eq_true rfl, Nat.le_of_ble_eq_true rfl⟩ rfl rfl rfl (Nat.le_of_ble_eq_true rfl) rfl dX6_chance_60 (fun _ => ?_)
              obtain rfl := Option.some.inj hf
              exact s_lret C (fun i => i) hr hlk rfl rfl dX6_chance_63
          · replace hf := ite_f hc34 hf
            refine s_aload_n C 41 0 rfl dX6_chance_40 rfl ?_
            refine s_bipush C 43 rfl dX6_chance_41 bp_m6 ?_
            obtain ⟨r32, q33, hf⟩ := bn_s hf
            refine s_callW (T := TX6) (N := 26) (ci := 5) (q0 := 0) (rest := []) C 46 (c_X6_noWide l D cI adK adV ad m_left m_bites m_many m_imageLeft m_imageBites m_imageMany m_wasLeft m_wasBites m_wasMany m_hasImage m_letterMany m_rowMany m_place m_seed m_kind m_figure m_imageKind m_imageFigure m_wasKind m_wasFigure m_letters m_row m_refused m_numbers m_counted m_few (-6 : Int32) r32 q33) (gV uu1450 uu1452 uu1594 uu6 uu1453) hd_X6_noWide rfl ⟨rfl, rfl⟩ ⟨Nat.le_of_ble_eq_true rfl, Nat.le_of_ble_eq_true rfl⟩ ⟨Nat.le_of_ble_eq_true rfl, Nat.le_of_ble_eq_true rfl⟩ rfl rfl rfl (Nat.le_of_ble_eq_true rfl) rfl dX6_chance_43 (fun _ => ?_)
            obtain rfl := Option.some.inj hf
            exact s_lret C (fun i => i) hr hlk rfl rfl dX6_chance_46
      · replace hf := ite_f hc38 hf
        refine s_aload_n C 23 0 rfl dX6_chance_22 rfl ?_
        refine s_bipush C 25 rfl dX6_chance_23 bp_m4 ?_
        obtain ⟨r36, q37, hf⟩ := bn_s hf
        refine s_callW (T := TX6) (N := 26) (ci := 5) (q0 := 0) (rest := []) C 28 (c_X6_noWide l D cI adK adV ad m_left m_bites m_many m_imageLeft m_imageBites m_imageMany m_wasLeft m_wasBites m_wasMany m_hasImage m_letterMany m_rowMany m_place m_seed m_kind m_figure m_imageKind m_imageFigure m_wasKind m_wasFigure m_letters m_row m_refused m_numbers m_counted m_few (-4 : Int32) r36 q37) (gV uu1450 uu1452 uu1594 uu6 uu1453) hd_X6_noWide rfl ⟨rfl, rfl⟩ ⟨Nat.le_of_ble_eq_true rfl, Nat.le_of_ble_eq_true rfl⟩ ⟨Nat.le_of_ble_eq_true rfl, Nat.le_of_ble_eq_true rfl⟩ rfl rfl rfl (Nat.le_of_ble_eq_true rfl) rfl dX6_chance_25 (fun _ => ?_)
        obtain rfl := Option.some.inj hf
        exact s_lret C (fun i => i) hr hlk rfl rfl dX6_chance_28
  · replace hf := ite_t hc42 hf
    refine s_aload_n C 9 0 rfl dX6_chance_8 rfl ?_
    refine s_iconst C 10 rfl dX6_chance_9 ic_m1 ?_
    obtain ⟨r40, q41, hf⟩ := bn_s hf
    refine s_callW (T := TX6) (N := 26) (ci := 5) (q0 := 0) (rest := []) C 13 (c_X6_noWide l D cI adK adV ad m_left m_bites m_many m_imageLeft m_imageBites m_imageMany m_wasLeft m_wasBites m_wasMany m_hasImage m_letterMany m_rowMany m_place m_seed m_kind m_figure m_imageKind m_imageFigure m_wasKind m_wasFigure m_letters m_row m_refused m_numbers m_counted m_few (-1 : Int32) r40 q41) (gV uu1450 uu1452 uu1594 uu6 uu1453) hd_X6_noWide rfl ⟨rfl, rfl⟩ ⟨Nat.le_of_ble_eq_true rfl, Nat.le_of_ble_eq_true rfl⟩ ⟨Nat.le_of_ble_eq_true rfl, Nat.le_of_ble_eq_true rfl⟩ rfl rfl rfl (Nat.le_of_ble_eq_true rfl) rfl dX6_chance_10 (fun _ => ?_)
    obtain rfl := Option.some.inj hf
    exact s_lret C (fun i => i) hr hlk rfl rfl dX6_chance_13


theorem hd_X6_mean : yX6_mean.cls = RX6 ∧ yX6_mean.cls ≠ "java/lang/invoke/MethodHandle" ∧ yX6_mean.cls ≠ "java/lang/invoke/VarHandle" ∧ (parseMethodDescriptor yX6_mean.desc).map (fun d => d.parameters.length) = some 1 := by decide +kernel
set_option maxHeartbeats 4000000 in
set_option maxRecDepth 100000 in
theorem c_X6_mean (l : Launch) (D : va_G) (cI : ClassId) (adK adV : Nat → Nat) (ad : Nat → Nat) (m_left : Int32) (m_bites : Int32) (m_many : Int32) (m_imageLeft : Int32) (m_imageBites : Int32) (m_imageMany : Int32) (m_wasLeft : Int32) (m_wasBites : Int32) (m_wasMany : Int32) (m_hasImage : Int32) (m_letterMany : Int32) (m_rowMany : Int32) (m_place : Int32) (m_seed : Int32) (m_kind : (Nat → Int32)) (m_figure : (Nat → Int32)) (m_imageKind : (Nat → Int32)) (m_imageFigure : (Nat → Int32)) (m_wasKind : (Nat → Int32)) (m_wasFigure : (Nat → Int32)) (m_letters : (Nat → Int32)) (m_row : (Nat → Int32)) (m_refused : (Nat → Int32)) (m_numbers : (Nat → Int32)) (m_counted : (Nat → Int32)) (m_few : (Nat → Int32)) (a1 : Int32) (o : Int64 × (Nat → Int32)) (hf : f_X6_mean m_left m_many m_kind m_figure m_refused a1 = some o) : Ct l D cI adK adV yX6_mean (wy yX6_mean cX6_mean 2 (some .long)) { frames := 6, cells := 0, slots := 0, locals := 140 } 0 0 [.ref (ad 0), .int a1] (wM ad cI m_left m_bites m_many m_imageLeft m_imageBites m_imageMany m_wasLeft m_wasBites m_wasMany m_hasImage m_letterMany m_rowMany m_place m_seed m_kind m_figure m_imageKind m_imageFigure m_wasKind m_wasFigure m_letters m_row m_refused m_numbers m_counted m_few) (fun _ => (wM ad cI m_left m_bites m_many m_imageLeft m_imageBites m_imageMany m_wasLeft m_wasBites m_wasMany m_hasImage m_letterMany m_rowMany m_place m_seed m_kind m_figure m_imageKind m_imageFigure m_wasKind m_wasFigure m_letters m_row o.2 m_numbers m_counted m_few)) (some (.long o.1)) := by
  refine Ct.of (cc := cX6_mean) (nL := 2) (ret := (some .long)) (own := RX6) (by decide) (Nat.le_of_ble_eq_true rfl) rfl ?_
  intro p e s m args below meth c A C hr hlk hnm
  refine s_lv (lv1 := [(0, .ref (ad 0)), (1, .int a1)]) [0, 1] rfl ?_
  unfold f_X6_mean at hf
  refine s_iload_n C 1 1 rfl dX6_mean_0 rfl ?_
  refine s_iconst C 2 rfl dX6_mean_1 ic_0 ?_
  refine s_iconst C 3 rfl dX6_mean_2 ic_1 ?_
  obtain ⟨r1, q2, hf⟩ := bn_s hf
  refine s_callS0 (host := "") (rest := []) C 6 (c_X6_isIn l D cI adK adV a1 (0 : Int32) (1 : Int32) r1 q2) (gS uu1106 uu1108 uu6 uu1109) hd_X6_isIn rfl ⟨rfl, rfl⟩ ⟨Nat.le_of_ble_eq_true rfl, Nat.le_of_ble_eq_true rfl⟩ ⟨Nat.le_of_ble_eq_true rfl, Nat.le_of_ble_eq_true rfl⟩ rfl (Nat.le_of_ble_eq_true rfl) rfl dX6_mean_3 ?_
  refine s_if_eq C 30 9 rfl dX6_mean_6 rfl (fun hc9 => ?_) (fun hc9 => ?_)
  · replace hf := ite_t hc9 hf
    refine s_aload_n C 31 0 rfl dX6_mean_30 rfl ?_
    refine s_bipush C 33 rfl dX6_mean_31 bp_m2 ?_
    obtain ⟨r3, q4, hf⟩ := bn_s hf
    refine s_callW (T := TX6) (N := 26) (ci := 5) (q0 := 0) (rest := []) C 36 (c_X6_noWide l D cI adK adV ad m_left m_bites m_many m_imageLeft m_imageBites m_imageMany m_wasLeft m_wasBites m_wasMany m_hasImage m_letterMany m_rowMany m_place m_seed m_kind m_figure m_imageKind m_imageFigure m_wasKind m_wasFigure m_letters m_row m_refused m_numbers m_counted m_few (-2 : Int32) r3 q4) (gV uu1450 uu1452 uu1594 uu6 uu1453) hd_X6_noWide rfl ⟨rfl, rfl⟩ ⟨Nat.le_of_ble_eq_true rfl, Nat.le_of_ble_eq_true rfl⟩ ⟨Nat.le_of_ble_eq_true rfl, Nat.le_of_ble_eq_true rfl⟩ rfl rfl rfl (Nat.le_of_ble_eq_true rfl) rfl dX6_mean_33 (fun _ => ?_)
    obtain rfl := Option.some.inj hf
    exact s_lret C (fun i => i) hr hlk rfl rfl dX6_mean_36
  · replace hf := ite_f hc9 hf
    refine s_aload_n C 10 0 rfl dX6_mean_9 rfl ?_
    refine s_aload_n C 11 0 rfl dX6_mean_10 rfl ?_
    refine s_get (C1 := RX6) (T := TX6) (N := 26) (ci := 5) C 14 0 0 uX6 rfl rfl (Nat.le_of_ble_eq_true rfl) uu986 rfl rfl rfl dX6_mean_11 ?_
    obtain ⟨r5, q6, hf⟩ := bn_s hf
    refine s_callW (T := TX6) (N := 26) (ci := 5) (q0 := 0) (rest := []) C 17 (c_X6_sharesOf l D cI adK adV ad m_left m_bites m_many m_imageLeft m_imageBites m_imageMany m_wasLeft m_wasBites m_wasMany m_hasImage m_letterMany m_rowMany m_place m_seed m_kind m_figure m_imageKind m_imageFigure m_wasKind m_wasFigure m_letters m_row m_refused m_numbers m_counted m_few m_left r5 q6) (gV uu1274 uu1276 uu1583 uu6 uu1277) hd_X6_sharesOf rfl ⟨rfl, rfl⟩ ⟨Nat.le_of_ble_eq_true rfl, Nat.le_of_ble_eq_true rfl⟩ ⟨Nat.le_of_ble_eq_true rfl, Nat.le_of_ble_eq_true rfl⟩ rfl rfl rfl (Nat.le_of_ble_eq_true rfl) rfl dX6_mean_14 (fun _ => ?_)
    refine s_i2l C 18 rfl dX6_mean_17 ?_
    refine s_aload_n C 19 0 rfl dX6_mean_18 rfl ?_
    refine s_get (C1 := RX6) (T := TX6) (N := 26) (ci := 5) C 22 0 2 uX6 rfl rfl (Nat.le_of_ble_eq_true rfl) uu990 rfl rfl rfl dX6_mean_19 ?_
    refine s_i2l C 23 rfl dX6_mean_22 ?_
    refine s_iload_n C 24 1 rfl dX6_mean_23 rfl ?_
    obtain ⟨r7, q8, hf⟩ := bn_s hf
    refine s_callS0 (host := "") (rest := []) C 27 (c_X6_partOf l D cI adK adV r5.toInt64 m_many.toInt64 a1 r7 q8) (gS uu1462 uu1464 uu6 uu1465) hd_X6_partOf rfl ⟨rfl, rfl⟩ ⟨Nat.le_of_ble_eq_true rfl, Nat.le_of_ble_eq_true rfl⟩ ⟨Nat.le_of_ble_eq_true rfl, Nat.le_of_ble_eq_true rfl⟩ rfl (Nat.le_of_ble_eq_true rfl) rfl dX6_mean_24 ?_
    refine s_goto C 36 dX6_mean_27 rfl ?_
    obtain rfl := Option.some.inj hf
    exact s_lret C (fun i => i) hr hlk rfl rfl dX6_mean_36


theorem hd_X6_whatIs : yX6_whatIs.cls = RX6 ∧ yX6_whatIs.cls ≠ "java/lang/invoke/MethodHandle" ∧ yX6_whatIs.cls ≠ "java/lang/invoke/VarHandle" ∧ (parseMethodDescriptor yX6_whatIs.desc).map (fun d => d.parameters.length) = some 2 := by decide +kernel
set_option maxHeartbeats 4000000 in
set_option maxRecDepth 100000 in
theorem c_X6_whatIs (l : Launch) (D : va_G) (cI : ClassId) (adK adV : Nat → Nat) (ad : Nat → Nat) (m_left : Int32) (m_bites : Int32) (m_many : Int32) (m_imageLeft : Int32) (m_imageBites : Int32) (m_imageMany : Int32) (m_wasLeft : Int32) (m_wasBites : Int32) (m_wasMany : Int32) (m_hasImage : Int32) (m_letterMany : Int32) (m_rowMany : Int32) (m_place : Int32) (m_seed : Int32) (m_kind : (Nat → Int32)) (m_figure : (Nat → Int32)) (m_imageKind : (Nat → Int32)) (m_imageFigure : (Nat → Int32)) (m_wasKind : (Nat → Int32)) (m_wasFigure : (Nat → Int32)) (m_letters : (Nat → Int32)) (m_row : (Nat → Int32)) (m_refused : (Nat → Int32)) (m_numbers : (Nat → Int32)) (m_counted : (Nat → Int32)) (m_few : (Nat → Int32)) (a1 : Int32) (a2 : Int32) (o : Int32 × (Nat → Int32)) (hf : f_X6_whatIs m_left m_many m_rowMany m_kind m_figure m_row m_refused a1 a2 = some o) : Ct l D cI adK adV yX6_whatIs (wy yX6_whatIs cX6_whatIs 7 (some .int)) { frames := 4, cells := 0, slots := 0, locals := 95 } 0 0 [.ref (ad 0), .int a1, .int a2] (wM ad cI m_left m_bites m_many m_imageLeft m_imageBites m_imageMany m_wasLeft m_wasBites m_wasMany m_hasImage m_letterMany m_rowMany m_place m_seed m_kind m_figure m_imageKind m_imageFigure m_wasKind m_wasFigure m_letters m_row m_refused m_numbers m_counted m_few) (fun _ => (wM ad cI m_left m_bites m_many m_imageLeft m_imageBites m_imageMany m_wasLeft m_wasBites m_wasMany m_hasImage m_letterMany m_rowMany m_place m_seed m_kind m_figure m_imageKind m_imageFigure m_wasKind m_wasFigure m_letters m_row o.2 m_numbers m_counted m_few)) (some (.int o.1)) := by
  refine Ct.of (cc := cX6_whatIs) (nL := 7) (ret := (some .int)) (own := RX6) (by decide) (Nat.le_of_ble_eq_true rfl) rfl ?_
  intro p e s m args below meth c A C hr hlk hnm
  refine s_lv (lv1 := [(0, .ref (ad 0)), (1, .int a1), (2, .int a2)]) [0, 1, 2] rfl ?_
  unfold f_X6_whatIs at hf
  refine s_aload_n C 1 0 rfl dX6_whatIs_0 rfl ?_
  refine s_iload_n C 2 1 rfl dX6_whatIs_1 rfl ?_
  obtain ⟨r1, q2, hf⟩ := bn_s hf
  refine s_callW (T := TX6) (N := 26) (ci := 5) (q0 := 0) (rest := []) C 5 (c_X6_isHeir l D cI adK adV ad m_left m_bites m_many m_imageLeft m_imageBites m_imageMany m_wasLeft m_wasBites m_wasMany m_hasImage m_letterMany m_rowMany m_place m_seed m_kind m_figure m_imageKind m_imageFigure m_wasKind m_wasFigure m_letters m_row m_refused m_numbers m_counted m_few a1 r1 q2) (gV uu1193 uu1195 uu1581 uu6 uu1196) hd_X6_isHeir rfl ⟨rfl, rfl⟩ ⟨Nat.le_of_ble_eq_true rfl, Nat.le_of_ble_eq_true rfl⟩ ⟨Nat.le_of_ble_eq_true rfl, Nat.le_of_ble_eq_true rfl⟩ rfl rfl rfl (Nat.le_of_ble_eq_true rfl) rfl dX6_whatIs_2 (fun _ => ?_)
  refine s_if_ne C 14 8 rfl dX6_whatIs_5 rfl (fun hc72 => ?_) (fun hc72 => ?_)
  · replace hf := ite_f hc72 hf
    refine s_iload_n C 15 2 rfl dX6_whatIs_14 rfl ?_
    refine s_iconst C 16 rfl dX6_whatIs_15 ic_0 ?_
    refine s_iconst C 17 rfl dX6_whatIs_16 ic_1 ?_
    obtain ⟨r3, q4, hf⟩ := bn_s hf
    refine s_callS0 (host := "") (rest := []) C 20 (c_X6_isIn l D cI adK adV a2 (0 : Int32) (1 : Int32) r3 q4) (gS uu1106 uu1108 uu6 uu1109) hd_X6_isIn rfl ⟨rfl, rfl⟩ ⟨Nat.le_of_ble_eq_true rfl, Nat.le_of_ble_eq_true rfl⟩ ⟨Nat.le_of_ble_eq_true rfl, Nat.le_of_ble_eq_true rfl⟩ rfl (Nat.le_of_ble_eq_true rfl) rfl dX6_whatIs_17 ?_
    refine s_if_ne C 30 23 rfl dX6_whatIs_20 rfl (fun hc69 => ?_) (fun hc69 => ?_)
    · replace hf := ite_f hc69 hf
      refine s_iconst C 31 rfl dX6_whatIs_30 ic_0 ?_
      refine s_istore_n (lv1 := [(3, .int (0 : Int32)), (0, .ref (ad 0)), (1, .int a1), (2, .int a2)]) C 32 3 rfl dX6_whatIs_31 rfl (Nat.le_of_ble_eq_true rfl) rfl ?_
      refine s_iconst C 33 rfl dX6_whatIs_32 ic_0 ?_
      refine s_istore (lv1 := [(4, .int (0 : Int32)), (3, .int (0 : Int32)), (0, .ref (ad 0)), (1, .int a1), (2, .int a2)]) C 35 4 rfl dX6_whatIs_33 (Nat.le_of_ble_eq_true rfl) rfl ?_
      refine s_lv (lv1 := [(0, .ref (ad 0)), (1, .int a1), (2, .int a2), (3, .int (0 : Int32)), (4, .int (0 : Int32))]) [2, 3, 4, 1, 0] rfl ?_
      refine s_loop (α := Int32 × Int32) (fun n v42 => f_X6_whatIs_35 a1 a2 m_left m_rowMany m_kind m_figure m_row m_refused n v42.1 v42.2) 35 (fun v42 => [(0, .ref (ad 0)), (1, .int a1), (2, .int a2), (3, .int v42.1), (4, .int v42.2)]) (fun v42 => (wM ad cI m_left m_bites m_many m_imageLeft m_imageBites m_imageMany m_wasLeft m_wasBites m_wasMany m_hasImage m_letterMany m_rowMany m_place m_seed m_kind m_figure m_imageKind m_imageFigure m_wasKind m_wasFigure m_letters m_row m_refused m_numbers m_counted m_few)) 1000 ((0 : Int32), (0 : Int32)) hf (fun v42 hf => by simp only [f_X6_whatIs_35] at hf; exact absurd hf (by simp)) (fun n ih43 v42 hf => ?_)
      replace hf := (f_X6_whatIs_35_s _ _ _ _ _ _ _ _ _ _ _).symm.trans hf
      refine s_iload C 37 4 rfl dX6_whatIs_35 rfl ?_
      refine s_iload_n C 38 2 rfl dX6_whatIs_37 rfl ?_
      refine s_jn (α := Int32) 48 (fun j44 => [(0, .ref (ad 0)), (1, .int a1), (2, .int a2), (3, .int v42.1), (4, .int v42.2)]) (fun j44 => [.int j44, .int v42.2]) (fun j44 => (wM ad cI m_left m_bites m_many m_imageLeft m_imageBites m_imageMany m_wasLeft m_wasBites m_wasMany m_hasImage m_letterMany m_rowMany m_place m_seed m_kind m_figure m_imageKind m_imageFigure m_wasKind m_wasFigure m_letters m_row m_refused m_numbers m_counted m_few)) hf (fun j44 hf => ?_) (fun hj hf => ?_)
      · refine s_icmp_ge C 173 51 rfl dX6_whatIs_48 rfl (fun hc66 => ?_) (fun hc66 => ?_)
        · replace hf := ite_t hc66 hf
          refine s_iload_n C 174 3 rfl dX6_whatIs_173 rfl ?_
          obtain rfl := Option.some.inj hf
          exact s_iret C (fun i => i) hr hlk rfl rfl dX6_whatIs_174
        · replace hf := ite_f hc66 hf
          refine s_iconst C 52 rfl dX6_whatIs_51 ic_1 ?_
          refine s_istore (lv1 := [(5, .int (1 : Int32)), (0, .ref (ad 0)), (1, .int a1), (2, .int a2), (3, .int v42.1), (4, .int v42.2)]) C 54 5 rfl dX6_whatIs_52 (Nat.le_of_ble_eq_true rfl) rfl ?_
          refine s_iconst C 55 rfl dX6_whatIs_54 ic_0 ?_
          refine s_istore (lv1 := [(6, .int (0 : Int32)), (5, .int (1 : Int32)), (0, .ref (ad 0)), (1, .int a1), (2, .int a2), (3, .int v42.1), (4, .int v42.2)]) C 57 6 rfl dX6_whatIs_55 (Nat.le_of_ble_eq_true rfl) rfl ?_
          refine s_lv (lv1 := [(0, .ref (ad 0)), (1, .int a1), (2, .int a2), (3, .int v42.1), (4, .int v42.2), (5, .int (1 : Int32)), (6, .int (0 : Int32))]) [2, 3, 4, 5, 6, 1, 0] rfl ?_
          refine s_kont (γ := Int32) (o := o) (fun KQ => f_X6_whatIs_57 a1 a2 v42.2 m_left m_rowMany m_kind m_figure m_row KQ 1000 (1 : Int32) (0 : Int32) = some o) 151 (fun e47 => [(0, .ref (ad 0)), (1, .int a1), (2, .int a2), (3, .int v42.1), (4, .int v42.2), (5, .int e47)]) (fun e47 => []) (fun e47 => (wM ad cI m_left m_bites m_many m_imageLeft m_imageBites m_imageMany m_wasLeft m_wasBites m_wasMany m_hasImage m_letterMany m_rowMany m_place m_seed m_kind m_figure m_imageKind m_imageFigure m_wasKind m_wasFigure m_letters m_row m_refused m_numbers m_counted m_few)) hf (fun e47 hf => ?_) (fun k46 hk46 hf => ?_)
          · refine s_iload_n C 152 3 rfl dX6_whatIs_151 rfl ?_
            refine s_iload C 154 5 rfl dX6_whatIs_152 rfl ?_
            refine s_jn (α := Int32) 165 (fun j48 => [(0, .ref (ad 0)), (1, .int a1), (2, .int a2), (4, .int v42.2)]) (fun j48 => [.int j48, .int v42.1]) (fun j48 => (wM ad cI m_left m_bites m_many m_imageLeft m_imageBites m_imageMany m_wasLeft m_wasBites m_wasMany m_hasImage m_letterMany m_rowMany m_place m_seed m_kind m_figure m_imageKind m_imageFigure m_wasKind m_wasFigure m_letters m_row m_refused m_numbers m_counted m_few)) hf (fun j48 hf => ?_) (fun hj hf => ?_)
            · refine s_ior C 166 rfl dX6_whatIs_165 ?_
              refine s_istore_n (lv1 := [(3, .int (v42.1 ||| j48)), (0, .ref (ad 0)), (1, .int a1), (2, .int a2), (4, .int v42.2)]) C 167 3 rfl dX6_whatIs_166 rfl (Nat.le_of_ble_eq_true rfl) rfl ?_
              refine s_iinc (lv1 := [(4, .int (v42.2 + (1 : Int32))), (3, .int (v42.1 ||| j48)), (0, .ref (ad 0)), (1, .int a1), (2, .int a2)]) C 170 4 4 rfl dX6_whatIs_167 rfl ic_1 (Nat.le_of_ble_eq_true rfl) rfl ?_
              refine s_goto C 35 dX6_whatIs_170 rfl ?_
              exact s_lv [2, 3, 4, 1, 0] rfl (ih43 ((v42.1 ||| j48, v42.2 + (1 : Int32)) : Int32 × Int32) hf)
            · refine s_if_eq C 164 157 rfl dX6_whatIs_154 rfl (fun hc49 => ?_) (fun hc49 => ?_)
              · replace hf := jn_t hc49 hf
                refine s_iconst C 165 rfl dX6_whatIs_164 ic_0 ?_
                replace hf := jn_i hf
                exact s_lv [0, 1, 2, 4] rfl (hj ((0 : Int32) : Int32) hf)
              · replace hf := jn_f hc49 hf
                refine s_iconst C 158 rfl dX6_whatIs_157 ic_1 ?_
                refine s_iload C 160 4 rfl dX6_whatIs_158 rfl ?_
                refine s_ishl C 161 rfl dX6_whatIs_160 ?_
                refine s_goto C 165 dX6_whatIs_161 rfl ?_
                replace hf := jn_i hf
                exact s_lv [0, 1, 2, 4] rfl (hj (jshl (1 : Int32) v42.2 : Int32) hf)
          · skip
            refine s_loop (α := Int32 × Int32) (fun n v50 => f_X6_whatIs_57 a1 a2 v42.2 m_left m_rowMany m_kind m_figure m_row k46 n v50.1 v50.2) 57 (fun v50 => [(0, .ref (ad 0)), (1, .int a1), (2, .int a2), (3, .int v42.1), (4, .int v42.2), (5, .int v50.1), (6, .int v50.2)]) (fun v50 => (wM ad cI m_left m_bites m_many m_imageLeft m_imageBites m_imageMany m_wasLeft m_wasBites m_wasMany m_hasImage m_letterMany m_rowMany m_place m_seed m_kind m_figure m_imageKind m_imageFigure m_wasKind m_wasFigure m_letters m_row m_refused m_numbers m_counted m_few)) 1000 ((1 : Int32), (0 : Int32)) hf (fun v50 hf => by simp only [f_X6_whatIs_57] at hf; exact absurd hf (by simp)) (fun n ih51 v50 hf => ?_)
            replace hf := (f_X6_whatIs_57_s _ _ _ _ _ _ _ _ _ _ _ _).symm.trans hf
            refine s_iload C 59 6 rfl dX6_whatIs_57 rfl ?_
            refine s_aload_n C 60 0 rfl dX6_whatIs_59 rfl ?_
            refine s_get (C1 := RX6) (T := TX6) (N := 26) (ci := 5) C 63 0 20 uX6 rfl rfl (Nat.le_of_ble_eq_true rfl) uu1026 rfl rfl rfl dX6_whatIs_60 ?_
            refine s_icmp_ge C 151 66 rfl dX6_whatIs_63 rfl (fun hc65 => ?_) (fun hc65 => ?_)
            · replace hf := ite_t hc65 hf
              exact s_lv [0, 1, 2, 3, 4, 5] rfl (hk46 (v50.1 : Int32) hf)
            · replace hf := ite_f hc65 hf
              refine s_iload C 68 5 rfl dX6_whatIs_66 rfl ?_
              refine s_iload C 70 6 rfl dX6_whatIs_68 rfl ?_
              refine s_jn (α := Int32) 93 (fun j52 => [(0, .ref (ad 0)), (1, .int a1), (2, .int a2), (3, .int v42.1), (4, .int v42.2), (6, .int v50.2)]) (fun j52 => [.int j52, .int v50.1]) (fun j52 => (wM ad cI m_left m_bites m_many m_imageLeft m_imageBites m_imageMany m_wasLeft m_wasBites m_wasMany m_hasImage m_letterMany m_rowMany m_place m_seed m_kind m_figure m_imageKind m_imageFigure m_wasKind m_wasFigure m_letters m_row m_refused m_numbers m_counted m_few)) hf (fun j52 hf => ?_) (fun hj hf => ?_)
              · refine s_iload_n C 94 2 rfl dX6_whatIs_93 rfl ?_
                refine s_bn (α := Int32) 108 (fun j54 => [(0, .ref (ad 0)), (1, .int a1), (2, .int a2), (3, .int v42.1), (4, .int v42.2), (6, .int v50.2)]) (fun j54 => [.int j54, .int j52, .int v50.1]) (fun j54 => (wM ad cI m_left m_bites m_many m_imageLeft m_imageBites m_imageMany m_wasLeft m_wasBites m_wasMany m_hasImage m_letterMany m_rowMany m_place m_seed m_kind m_figure m_imageKind m_imageFigure m_wasKind m_wasFigure m_letters m_row m_refused m_numbers m_counted m_few)) hf (fun j54 hf => ?_) (fun hj hf => ?_)
                · refine s_iload_n C 109 2 rfl dX6_whatIs_108 rfl ?_
                  refine s_iconst C 110 rfl dX6_whatIs_109 ic_1 ?_
                  refine s_bn (α := Int32) 124 (fun j57 => [(0, .ref (ad 0)), (1, .int a1), (2, .int a2), (3, .int v42.1), (4, .int v42.2), (6, .int v50.2)]) (fun j57 => [.int j57, .int j54, .int j52, .int v50.1]) (fun j57 => (wM ad cI m_left m_bites m_many m_imageLeft m_imageBites m_imageMany m_wasLeft m_wasBites m_wasMany m_hasImage m_letterMany m_rowMany m_place m_seed m_kind m_figure m_imageKind m_imageFigure m_wasKind m_wasFigure m_letters m_row m_refused m_numbers m_counted m_few)) hf (fun j57 hf => ?_) (fun hj hf => ?_)
                  · obtain ⟨r60, q61, hf⟩ := bn_s hf
                    refine s_callS0 (host := "") (rest := [.int v50.1]) C 127 (c_X6_shareBy l D cI adK adV j52 j54 j57 r60 q61) (gS uu1203 uu1205 uu6 uu1206) hd_X6_shareBy rfl ⟨rfl, rfl⟩ ⟨Nat.le_of_ble_eq_true rfl, Nat.le_of_ble_eq_true rfl⟩ ⟨Nat.le_of_ble_eq_true rfl, Nat.le_of_ble_eq_true rfl⟩ rfl (Nat.le_of_ble_eq_true rfl) rfl dX6_whatIs_124 ?_
                    refine s_aload_n C 128 0 rfl dX6_whatIs_127 rfl ?_
                    refine s_get (C1 := RX6) (T := TX6) (N := 26) (ci := 5) C 131 0 17 uX6 rfl rfl (Nat.le_of_ble_eq_true rfl) uu1020 rfl rfl rfl dX6_whatIs_128 ?_
                    refine s_iload C 133 5 rfl dX6_whatIs_131 rfl ?_
                    obtain ⟨h62, hf⟩ := ck_in hf
                    refine s_iald C 134 8 rfl h62 rfl dX6_whatIs_133 ?_
                    refine s_jn (α := Int32) 142 (fun j63 => [(0, .ref (ad 0)), (1, .int a1), (2, .int a2), (3, .int v42.1), (4, .int v42.2), (6, .int v50.2)]) (fun j63 => [.int j63, .int v50.1]) (fun j63 => (wM ad cI m_left m_bites m_many m_imageLeft m_imageBites m_imageMany m_wasLeft m_wasBites m_wasMany m_hasImage m_letterMany m_rowMany m_place m_seed m_kind m_figure m_imageKind m_imageFigure m_wasKind m_wasFigure m_letters m_row m_refused m_numbers m_counted m_few)) hf (fun j63 hf => ?_) (fun hj hf => ?_)
                    · refine s_iand C 143 rfl dX6_whatIs_142 ?_
                      refine s_istore (lv1 := [(5, .int (v50.1 &&& j63)), (0, .ref (ad 0)), (1, .int a1), (2, .int a2), (3, .int v42.1), (4, .int v42.2), (6, .int v50.2)]) C 145 5 rfl dX6_whatIs_143 (Nat.le_of_ble_eq_true rfl) rfl ?_
                      refine s_iinc (lv1 := [(6, .int (v50.2 + (1 : Int32))), (5, .int (v50.1 &&& j63)), (0, .ref (ad 0)), (1, .int a1), (2, .int a2), (3, .int v42.1), (4, .int v42.2)]) C 148 6 6 rfl dX6_whatIs_145 rfl ic_1 (Nat.le_of_ble_eq_true rfl) rfl ?_
                      refine s_goto C 57 dX6_whatIs_148 rfl ?_
                      exact s_lv [2, 3, 4, 5, 6, 1, 0] rfl (ih51 ((v50.1 &&& j63, v50.2 + (1 : Int32)) : Int32 × Int32) hf)
                    · refine s_icmp_ne C 141 137 rfl dX6_whatIs_134 rfl (fun hc64 => ?_) (fun hc64 => ?_)
                      · replace hf := jn_f hc64 hf
                        refine s_iconst C 142 rfl dX6_whatIs_141 ic_0 ?_
                        replace hf := jn_i hf
                        exact s_lv [0, 1, 2, 3, 4, 5] rfl (hj ((0 : Int32) : Int32) hf)
                      · replace hf := jn_t hc64 hf
                        refine s_iconst C 138 rfl dX6_whatIs_137 ic_1 ?_
                        refine s_goto C 142 dX6_whatIs_138 rfl ?_
                        replace hf := jn_i hf
                        exact s_lv [0, 1, 2, 3, 4, 5] rfl (hj ((1 : Int32) : Int32) hf)
                  · refine s_icmp_ne C 118 113 rfl dX6_whatIs_110 rfl (fun hc59 => ?_) (fun hc59 => ?_)
                    · replace hf := bn_f hc59 hf
                      refine s_aload_n C 119 0 rfl dX6_whatIs_118 rfl ?_
                      refine s_get (C1 := RX6) (T := TX6) (N := 26) (ci := 5) C 122 0 10 uX6 rfl rfl (Nat.le_of_ble_eq_true rfl) uu1006 rfl rfl rfl dX6_whatIs_119 ?_
                      refine s_iload_n C 123 1 rfl dX6_whatIs_122 rfl ?_
                      obtain ⟨h58, hf⟩ := ck_inb hf
                      refine s_iald C 124 2 rfl h58 rfl dX6_whatIs_123 ?_
                      replace hf := bn_i hf
                      exact s_lv [0, 1, 2, 3, 4, 5] rfl (hj (m_figure a1.toNatClampNeg : Int32) hf)
                    · replace hf := bn_t hc59 hf
                      refine s_iload C 115 4 rfl dX6_whatIs_113 rfl ?_
                      refine s_goto C 124 dX6_whatIs_115 rfl ?_
                      replace hf := bn_i hf
                      exact s_lv [0, 1, 2, 3, 4, 5] rfl (hj (v42.2 : Int32) hf)
                · refine s_if_ne C 102 97 rfl dX6_whatIs_94 rfl (fun hc56 => ?_) (fun hc56 => ?_)
                  · replace hf := bn_f hc56 hf
                    refine s_aload_n C 103 0 rfl dX6_whatIs_102 rfl ?_
                    refine s_get (C1 := RX6) (T := TX6) (N := 26) (ci := 5) C 106 0 9 uX6 rfl rfl (Nat.le_of_ble_eq_true rfl) uu1004 rfl rfl rfl dX6_whatIs_103 ?_
                    refine s_iload_n C 107 1 rfl dX6_whatIs_106 rfl ?_
                    obtain ⟨h55, hf⟩ := ck_inb hf
                    refine s_iald C 108 1 rfl h55 rfl dX6_whatIs_107 ?_
                    replace hf := bn_i hf
                    exact s_lv [0, 1, 2, 3, 4, 5] rfl (hj (m_kind a1.toNatClampNeg : Int32) hf)
                  · replace hf := bn_t hc56 hf
                    refine s_iload C 99 4 rfl dX6_whatIs_97 rfl ?_
                    refine s_goto C 108 dX6_whatIs_99 rfl ?_
                    replace hf := bn_i hf
                    exact s_lv [0, 1, 2, 3, 4, 5] rfl (hj (v42.2 : Int32) hf)
              · refine s_if_ne C 80 73 rfl dX6_whatIs_70 rfl (fun hc53 => ?_) (fun hc53 => ?_)
                · replace hf := jn_f hc53 hf
                  refine s_aload_n C 81 0 rfl dX6_whatIs_80 rfl ?_
                  refine s_get (C1 := RX6) (T := TX6) (N := 26) (ci := 5) C 84 0 0 uX6 rfl rfl (Nat.le_of_ble_eq_true rfl) uu986 rfl rfl rfl dX6_whatIs_81 ?_
                  refine s_iconst C 85 rfl dX6_whatIs_84 ic_1 ?_
                  refine s_iload C 87 6 rfl dX6_whatIs_85 rfl ?_
                  refine s_iconst C 88 rfl dX6_whatIs_87 ic_1 ?_
                  refine s_isub C 89 rfl dX6_whatIs_88 ?_
                  refine s_ishl C 90 rfl dX6_whatIs_89 ?_
                  refine s_iconst C 91 rfl dX6_whatIs_90 ic_m1 ?_
                  refine s_ixor C 92 rfl dX6_whatIs_91 ?_
                  refine s_iand C 93 rfl dX6_whatIs_92 ?_
                  replace hf := jn_i hf
                  exact s_lv [0, 1, 2, 3, 4, 6] rfl (hj (m_left &&& ((jshl (1 : Int32) (v50.2 - (1 : Int32))) ^^^ (-1 : Int32)) : Int32) hf)
                · replace hf := jn_t hc53 hf
                  refine s_aload_n C 74 0 rfl dX6_whatIs_73 rfl ?_
                  refine s_get (C1 := RX6) (T := TX6) (N := 26) (ci := 5) C 77 0 0 uX6 rfl rfl (Nat.le_of_ble_eq_true rfl) uu986 rfl rfl rfl dX6_whatIs_74 ?_
                  refine s_goto C 93 dX6_whatIs_77 rfl ?_
                  replace hf := jn_i hf
                  exact s_lv [0, 1, 2, 3, 4, 6] rfl (hj (m_left : Int32) hf)
      · refine s_if_ne C 46 41 rfl dX6_whatIs_38 rfl (fun hc45 => ?_) (fun hc45 => ?_)
        · replace hf := jn_f hc45 hf
          refine s_bipush C 48 rfl dX6_whatIs_46 bp_10 ?_
          replace hf := jn_i hf
          exact s_lv [0, 1, 2, 3, 4] rfl (hj ((10 : Int32) : Int32) hf)
        · replace hf := jn_t hc45 hf
          refine s_bipush C 43 rfl dX6_whatIs_41 bp_6 ?_
          refine s_goto C 48 dX6_whatIs_43 rfl ?_
          replace hf := jn_i hf
          exact s_lv [0, 1, 2, 3, 4] rfl (hj ((6 : Int32) : Int32) hf)
    · replace hf := ite_t hc69 hf
      refine s_aload_n C 24 0 rfl dX6_whatIs_23 rfl ?_
      refine s_bipush C 26 rfl dX6_whatIs_24 bp_m2 ?_
      obtain ⟨r67, q68, hf⟩ := bn_s hf
      refine s_callW (T := TX6) (N := 26) (ci := 5) (q0 := 0) (rest := []) C 29 (c_X6_no l D cI adK adV ad m_left m_bites m_many m_imageLeft m_imageBites m_imageMany m_wasLeft m_wasBites m_wasMany m_hasImage m_letterMany m_rowMany m_place m_seed m_kind m_figure m_imageKind m_imageFigure m_wasKind m_wasFigure m_letters m_row m_refused m_numbers m_counted m_few (-2 : Int32) r67 q68) (gV uu1070 uu1072 uu1571 uu6 uu1073) hd_X6_no rfl ⟨rfl, rfl⟩ ⟨Nat.le_of_ble_eq_true rfl, Nat.le_of_ble_eq_true rfl⟩ ⟨Nat.le_of_ble_eq_true rfl, Nat.le_of_ble_eq_true rfl⟩ rfl rfl rfl (Nat.le_of_ble_eq_true rfl) rfl dX6_whatIs_26 (fun _ => ?_)
      obtain rfl := Option.some.inj hf
      exact s_iret C (fun i => i) hr hlk rfl rfl dX6_whatIs_29
  · replace hf := ite_t hc72 hf
    refine s_aload_n C 9 0 rfl dX6_whatIs_8 rfl ?_
    refine s_iconst C 10 rfl dX6_whatIs_9 ic_m1 ?_
    obtain ⟨r70, q71, hf⟩ := bn_s hf
    refine s_callW (T := TX6) (N := 26) (ci := 5) (q0 := 0) (rest := []) C 13 (c_X6_no l D cI adK adV ad m_left m_bites m_many m_imageLeft m_imageBites m_imageMany m_wasLeft m_wasBites m_wasMany m_hasImage m_letterMany m_rowMany m_place m_seed m_kind m_figure m_imageKind m_imageFigure m_wasKind m_wasFigure m_letters m_row m_refused m_numbers m_counted m_few (-1 : Int32) r70 q71) (gV uu1070 uu1072 uu1571 uu6 uu1073) hd_X6_no rfl ⟨rfl, rfl⟩ ⟨Nat.le_of_ble_eq_true rfl, Nat.le_of_ble_eq_true rfl⟩ ⟨Nat.le_of_ble_eq_true rfl, Nat.le_of_ble_eq_true rfl⟩ rfl rfl rfl (Nat.le_of_ble_eq_true rfl) rfl dX6_whatIs_10 (fun _ => ?_)
    obtain rfl := Option.some.inj hf
    exact s_iret C (fun i => i) hr hlk rfl rfl dX6_whatIs_13


theorem hd_X6_row : yX6_row.cls = RX6 ∧ yX6_row.cls ≠ "java/lang/invoke/MethodHandle" ∧ yX6_row.cls ≠ "java/lang/invoke/VarHandle" ∧ (parseMethodDescriptor yX6_row.desc).map (fun d => d.parameters.length) = some 1 := by decide +kernel
set_option maxHeartbeats 4000000 in
set_option maxRecDepth 100000 in
theorem c_X6_row (l : Launch) (D : va_G) (cI : ClassId) (adK adV : Nat → Nat) (ad : Nat → Nat) (m_left : Int32) (m_bites : Int32) (m_many : Int32) (m_imageLeft : Int32) (m_imageBites : Int32) (m_imageMany : Int32) (m_wasLeft : Int32) (m_wasBites : Int32) (m_wasMany : Int32) (m_hasImage : Int32) (m_letterMany : Int32) (m_rowMany : Int32) (m_place : Int32) (m_seed : Int32) (m_kind : (Nat → Int32)) (m_figure : (Nat → Int32)) (m_imageKind : (Nat → Int32)) (m_imageFigure : (Nat → Int32)) (m_wasKind : (Nat → Int32)) (m_wasFigure : (Nat → Int32)) (m_letters : (Nat → Int32)) (m_row : (Nat → Int32)) (m_refused : (Nat → Int32)) (m_numbers : (Nat → Int32)) (m_counted : (Nat → Int32)) (m_few : (Nat → Int32)) (a1 : Int32) (o : Int32 × Int32 × (Nat → Int32) × (Nat → Int32)) (hf : f_X6_row m_rowMany m_row m_refused a1 = some o) : Ct l D cI adK adV yX6_row (wy yX6_row cX6_row 3 (some .int)) { frames := 1, cells := 0, slots := 0, locals := 21 } 0 0 [.ref (ad 0), .int a1] (wM ad cI m_left m_bites m_many m_imageLeft m_imageBites m_imageMany m_wasLeft m_wasBites m_wasMany m_hasImage m_letterMany m_rowMany m_place m_seed m_kind m_figure m_imageKind m_imageFigure m_wasKind m_wasFigure m_letters m_row m_refused m_numbers m_counted m_few) (fun _ => (wM ad cI m_left m_bites m_many m_imageLeft m_imageBites m_imageMany m_wasLeft m_wasBites m_wasMany m_hasImage m_letterMany o.2.1 m_place m_seed m_kind m_figure m_imageKind m_imageFigure m_wasKind m_wasFigure m_letters o.2.2.1 o.2.2.2 m_numbers m_counted m_few)) (some (.int o.1)) := by
  refine Ct.of (cc := cX6_row) (nL := 3) (ret := (some .int)) (own := RX6) (by decide) (Nat.le_of_ble_eq_true rfl) rfl ?_
  intro p e s m args below meth c A C hr hlk hnm
  refine s_lv (lv1 := [(0, .ref (ad 0)), (1, .int a1)]) [0, 1] rfl ?_
  unfold f_X6_row at hf
  refine s_iload_n C 1 1 rfl dX6_row_0 rfl ?_
  refine s_bipush C 3 rfl dX6_row_1 bp_99 ?_
  obtain ⟨r1, q2, hf⟩ := bn_s hf
  refine s_callS0 (host := "") (rest := []) C 6 (c_X6_wrongBy l D cI adK adV a1 (99 : Int32) r1 q2) (gS uu1257 uu1259 uu6 uu1260) hd_X6_wrongBy rfl ⟨rfl, rfl⟩ ⟨Nat.le_of_ble_eq_true rfl, Nat.le_of_ble_eq_true rfl⟩ ⟨Nat.le_of_ble_eq_true rfl, Nat.le_of_ble_eq_true rfl⟩ rfl (Nat.le_of_ble_eq_true rfl) rfl dX6_row_3 ?_
  refine s_istore_n (lv1 := [(2, .int r1), (0, .ref (ad 0)), (1, .int a1)]) C 7 2 rfl dX6_row_6 rfl (Nat.le_of_ble_eq_true rfl) rfl ?_
  refine s_iload_n C 8 0 rfl dX6_row_7 rfl ?_
  refine s_jn (α := Int32) 23 (fun j3 => [(0, .ref (ad 0)), (1, .int a1), (2, .int j3)]) (fun j3 => []) (fun j3 => (wM ad cI m_left m_bites m_many m_imageLeft m_imageBites m_imageMany m_wasLeft m_wasBites m_wasMany m_hasImage m_letterMany m_rowMany m_place m_seed m_kind m_figure m_imageKind m_imageFigure m_wasKind m_wasFigure m_letters m_row m_refused m_numbers m_counted m_few)) hf (fun j3 hf => ?_) (fun hj hf => ?_)
  · refine s_iload_n C 24 2 rfl dX6_row_23 rfl ?_
    refine s_if_eq C 33 27 rfl dX6_row_24 rfl (fun hc9 => ?_) (fun hc9 => ?_)
    · replace hf := ite_t hc9 hf
      refine s_aload_n C 34 0 rfl dX6_row_33 rfl ?_
      refine s_get (C1 := RX6) (T := TX6) (N := 26) (ci := 5) C 37 0 17 uX6 rfl rfl (Nat.le_of_ble_eq_true rfl) uu1020 rfl rfl rfl dX6_row_34 ?_
      refine s_aload_n C 38 0 rfl dX6_row_37 rfl ?_
      refine s_get (C1 := RX6) (T := TX6) (N := 26) (ci := 5) C 41 0 20 uX6 rfl rfl (Nat.le_of_ble_eq_true rfl) uu1026 rfl rfl rfl dX6_row_38 ?_
      refine s_iload_n C 42 1 rfl dX6_row_41 rfl ?_
      obtain ⟨h6, hf⟩ := ck_in hf
      refine s_iast (ws1 := (wM ad cI m_left m_bites m_many m_imageLeft m_imageBites m_imageMany m_wasLeft m_wasBites m_wasMany m_hasImage m_letterMany m_rowMany m_place m_seed m_kind m_figure m_imageKind m_imageFigure m_wasKind m_wasFigure m_letters (upd m_row m_rowMany.toNatClampNeg a1) m_refused m_numbers m_counted m_few)) C 43 8 rfl h6 rfl rfl dX6_row_42 ?_
      refine s_aload_n C 44 0 rfl dX6_row_43 rfl ?_
      refine s_dup C 45 rfl dX6_row_44 rfl ?_
      refine s_get (C1 := RX6) (T := TX6) (N := 26) (ci := 5) C 48 0 20 uX6 rfl rfl (Nat.le_of_ble_eq_true rfl) uu1026 rfl rfl rfl dX6_row_45 ?_
      refine s_iconst C 49 rfl dX6_row_48 ic_1 ?_
      refine s_iadd C 50 rfl dX6_row_49 ?_
      refine s_put (C1 := RX6) (T := TX6) (N := 26) (ci := 5) (ty := tyX6 20) (ws1 := (wM ad cI m_left m_bites m_many m_imageLeft m_imageBites m_imageMany m_wasLeft m_wasBites m_wasMany m_hasImage m_letterMany (m_rowMany + (1 : Int32)) m_place m_seed m_kind m_figure m_imageKind m_imageFigure m_wasKind m_wasFigure m_letters (upd m_row m_rowMany.toNatClampNeg a1) m_refused m_numbers m_counted m_few)) C 53 0 20 uX6 tyX6 tyX6_ok nmX6 rfl rfl (Nat.le_of_ble_eq_true rfl) uu1026 rfl rfl (tyX6_ok 20 (Nat.le_of_ble_eq_true rfl)) ⟨rfl, rfl⟩ (Nat.le_of_ble_eq_true rfl) rfl rfl dX6_row_50 ?_
      refine s_aload_n C 54 0 rfl dX6_row_53 rfl ?_
      refine s_get (C1 := RX6) (T := TX6) (N := 26) (ci := 5) C 57 0 20 uX6 rfl rfl (Nat.le_of_ble_eq_true rfl) uu1026 rfl rfl rfl dX6_row_54 ?_
      obtain rfl := Option.some.inj hf
      exact s_iret C (fun i => i) hr hlk rfl rfl dX6_row_57
    · replace hf := ite_f hc9 hf
      refine s_aload_n C 28 0 rfl dX6_row_27 rfl ?_
      refine s_iload_n C 29 2 rfl dX6_row_28 rfl ?_
      obtain ⟨r7, q8, hf⟩ := bn_s hf
      refine s_callW (T := TX6) (N := 26) (ci := 5) (q0 := 0) (rest := []) C 32 (c_X6_no l D cI adK adV ad m_left m_bites m_many m_imageLeft m_imageBites m_imageMany m_wasLeft m_wasBites m_wasMany m_hasImage m_letterMany m_rowMany m_place m_seed m_kind m_figure m_imageKind m_imageFigure m_wasKind m_wasFigure m_letters m_row m_refused m_numbers m_counted m_few j3 r7 q8) (gV uu1070 uu1072 uu1571 uu6 uu1073) hd_X6_no rfl ⟨rfl, rfl⟩ ⟨Nat.le_of_ble_eq_true rfl, Nat.le_of_ble_eq_true rfl⟩ ⟨Nat.le_of_ble_eq_true rfl, Nat.le_of_ble_eq_true rfl⟩ rfl rfl rfl (Nat.le_of_ble_eq_true rfl) rfl dX6_row_29 (fun _ => ?_)
      obtain rfl := Option.some.inj hf
      exact s_iret C (fun i => i) hr hlk rfl rfl dX6_row_32
  · refine s_if_ne C 23 11 rfl dX6_row_8 rfl (fun hc5 => ?_) (fun hc5 => ?_)
    · replace hf := jn_f hc5 hf
      replace hf := jn_i hf
      exact s_lv [1, 2, 0] rfl (hj (r1 : Int32) hf)
    · replace hf := jn_t hc5 hf
      refine s_aload_n C 12 1 rfl dX6_row_11 rfl ?_
      refine s_get (C1 := RX6) (T := TX6) (N := 26) (ci := 5) C 15 0 20 uX6 rfl rfl (Nat.le_of_ble_eq_true rfl) uu1026 rfl rfl rfl dX6_row_12 ?_
      refine s_bipush C 17 rfl dX6_row_15 bp_16 ?_
      refine s_icmp_ne C 23 20 rfl dX6_row_17 rfl (fun hc4 => ?_) (fun hc4 => ?_)
      · replace hf := jn_f hc4 hf
        replace hf := jn_i hf
        exact s_lv [1, 2, 0] rfl (hj (r1 : Int32) hf)
      · replace hf := jn_t hc4 hf
        refine s_bipush C 22 rfl dX6_row_20 bp_m6 ?_
        refine s_istore_n (lv1 := [(2, .int (-6 : Int32)), (0, .ref (ad 0)), (1, .int a1)]) C 23 2 rfl dX6_row_22 rfl (Nat.le_of_ble_eq_true rfl) rfl ?_
        replace hf := jn_i hf
        exact s_lv [1, 2, 0] rfl (hj ((-6 : Int32) : Int32) hf)


theorem hd_X6_judge : yX6_judge.cls = RX6 ∧ yX6_judge.cls ≠ "java/lang/invoke/MethodHandle" ∧ yX6_judge.cls ≠ "java/lang/invoke/VarHandle" ∧ (parseMethodDescriptor yX6_judge.desc).map (fun d => d.parameters.length) = some 0 := by decide +kernel
set_option maxHeartbeats 4000000 in
set_option maxRecDepth 100000 in
theorem c_X6_judge (l : Launch) (D : va_G) (cI : ClassId) (adK adV : Nat → Nat) (ad : Nat → Nat) (m_left : Int32) (m_bites : Int32) (m_many : Int32) (m_imageLeft : Int32) (m_imageBites : Int32) (m_imageMany : Int32) (m_wasLeft : Int32) (m_wasBites : Int32) (m_wasMany : Int32) (m_hasImage : Int32) (m_letterMany : Int32) (m_rowMany : Int32) (m_place : Int32) (m_seed : Int32) (m_kind : (Nat → Int32)) (m_figure : (Nat → Int32)) (m_imageKind : (Nat → Int32)) (m_imageFigure : (Nat → Int32)) (m_wasKind : (Nat → Int32)) (m_wasFigure : (Nat → Int32)) (m_letters : (Nat → Int32)) (m_row : (Nat → Int32)) (m_refused : (Nat → Int32)) (m_numbers : (Nat → Int32)) (m_counted : (Nat → Int32)) (m_few : (Nat → Int32))  (o : Int32 × Int32) (hf : f_X6_judge m_left m_many m_rowMany m_kind m_figure m_row = some o) : Ct l D cI adK adV yX6_judge (wy yX6_judge cX6_judge 3 (some .int)) { frames := 5, cells := 0, slots := 0, locals := 117 } 0 0 [.ref (ad 0)] (wM ad cI m_left m_bites m_many m_imageLeft m_imageBites m_imageMany m_wasLeft m_wasBites m_wasMany m_hasImage m_letterMany m_rowMany m_place m_seed m_kind m_figure m_imageKind m_imageFigure m_wasKind m_wasFigure m_letters m_row m_refused m_numbers m_counted m_few) (fun _ => (wM ad cI m_left m_bites m_many m_imageLeft m_imageBites m_imageMany m_wasLeft m_wasBites m_wasMany m_hasImage m_letterMany o.2 m_place m_seed m_kind m_figure m_imageKind m_imageFigure m_wasKind m_wasFigure m_letters m_row m_refused m_numbers m_counted m_few)) (some (.int o.1)) := by
  refine Ct.of (cc := cX6_judge) (nL := 3) (ret := (some .int)) (own := RX6) (by decide) (Nat.le_of_ble_eq_true rfl) rfl ?_
  intro p e s m args below meth c A C hr hlk hnm
  refine s_lv (lv1 := [(0, .ref (ad 0))]) [0] rfl ?_
  unfold f_X6_judge at hf
  refine s_aload_n C 1 0 rfl dX6_judge_0 rfl ?_
  refine s_get (C1 := RX6) (T := TX6) (N := 26) (ci := 5) C 4 0 20 uX6 rfl rfl (Nat.le_of_ble_eq_true rfl) uu1026 rfl rfl rfl dX6_judge_1 ?_
  refine s_istore_n (lv1 := [(1, .int m_rowMany), (0, .ref (ad 0))]) C 5 1 rfl dX6_judge_4 rfl (Nat.le_of_ble_eq_true rfl) rfl ?_
  refine s_aload_n C 6 1 rfl dX6_judge_5 rfl ?_
  refine s_iconst C 7 rfl dX6_judge_6 ic_0 ?_
  refine s_put (C1 := RX6) (T := TX6) (N := 26) (ci := 5) (ty := tyX6 20) (ws1 := (wM ad cI m_left m_bites m_many m_imageLeft m_imageBites m_imageMany m_wasLeft m_wasBites m_wasMany m_hasImage m_letterMany (0 : Int32) m_place m_seed m_kind m_figure m_imageKind m_imageFigure m_wasKind m_wasFigure m_letters m_row m_refused m_numbers m_counted m_few)) C 10 0 20 uX6 tyX6 tyX6_ok nmX6 rfl rfl (Nat.le_of_ble_eq_true rfl) uu1026 rfl rfl (tyX6_ok 20 (Nat.le_of_ble_eq_true rfl)) ⟨rfl, rfl⟩ (Nat.le_of_ble_eq_true rfl) rfl rfl dX6_judge_7 ?_
  refine s_iconst C 11 rfl dX6_judge_10 ic_0 ?_
  refine s_istore_n (lv1 := [(2, .int (0 : Int32)), (1, .int m_rowMany), (0, .ref (ad 0))]) C 12 2 rfl dX6_judge_11 rfl (Nat.le_of_ble_eq_true rfl) rfl ?_
  refine s_lv (lv1 := [(0, .ref (ad 0)), (1, .int m_rowMany), (2, .int (0 : Int32))]) [2, 1, 0] rfl ?_
  refine s_loop (α := Int32) (fun n v9 => f_X6_judge_12 m_rowMany m_left m_many (0 : Int32) m_kind m_figure m_row n v9) 12 (fun v9 => [(0, .ref (ad 0)), (1, .int m_rowMany), (2, .int v9)]) (fun v9 => (wM ad cI m_left m_bites m_many m_imageLeft m_imageBites m_imageMany m_wasLeft m_wasBites m_wasMany m_hasImage m_letterMany (0 : Int32) m_place m_seed m_kind m_figure m_imageKind m_imageFigure m_wasKind m_wasFigure m_letters m_row m_refused m_numbers m_counted m_few)) 1000 (0 : Int32) hf (fun v9 hf => by simp only [f_X6_judge_12] at hf; exact absurd hf (by simp)) (fun n ih10 v9 hf => ?_)
  replace hf := (f_X6_judge_12_s _ _ _ _ _ _ _ _ _).symm.trans hf
  refine s_iload_n C 13 2 rfl dX6_judge_12 rfl ?_
  refine s_iload_n C 14 1 rfl dX6_judge_13 rfl ?_
  refine s_icmp_ge C 51 17 rfl dX6_judge_14 rfl (fun hc18 => ?_) (fun hc18 => ?_)
  · replace hf := ite_t hc18 hf
    refine s_bipush C 53 rfl dX6_judge_51 bp_m9 ?_
    obtain rfl := Option.some.inj hf
    exact s_iret C (fun i => i) hr hlk rfl rfl dX6_judge_53
  · replace hf := ite_f hc18 hf
    refine s_aload_n C 18 0 rfl dX6_judge_17 rfl ?_
    refine s_iload_n C 19 2 rfl dX6_judge_18 rfl ?_
    obtain ⟨r11, q12, hf⟩ := bn_s hf
    refine s_callW (T := TX6) (N := 26) (ci := 5) (q0 := 0) (rest := []) C 22 (c_X6_isHeir l D cI adK adV ad m_left m_bites m_many m_imageLeft m_imageBites m_imageMany m_wasLeft m_wasBites m_wasMany m_hasImage m_letterMany (0 : Int32) m_place m_seed m_kind m_figure m_imageKind m_imageFigure m_wasKind m_wasFigure m_letters m_row m_refused m_numbers m_counted m_few v9 r11 q12) (gV uu1193 uu1195 uu1581 uu6 uu1196) hd_X6_isHeir rfl ⟨rfl, rfl⟩ ⟨Nat.le_of_ble_eq_true rfl, Nat.le_of_ble_eq_true rfl⟩ ⟨Nat.le_of_ble_eq_true rfl, Nat.le_of_ble_eq_true rfl⟩ rfl rfl rfl (Nat.le_of_ble_eq_true rfl) rfl dX6_judge_19 (fun _ => ?_)
    refine s_if_eq C 43 25 rfl dX6_judge_22 rfl (fun hc17 => ?_) (fun hc17 => ?_)
    · replace hf := ite_t hc17 hf
      refine s_iload_n C 44 2 rfl dX6_judge_43 rfl ?_
      obtain rfl := Option.some.inj hf
      exact s_iret C (fun i => i) hr hlk rfl rfl dX6_judge_44
    · replace hf := ite_f hc17 hf
      refine s_aload_n C 26 0 rfl dX6_judge_25 rfl ?_
      refine s_aload_n C 27 0 rfl dX6_judge_26 rfl ?_
      refine s_get (C1 := RX6) (T := TX6) (N := 26) (ci := 5) C 30 0 0 uX6 rfl rfl (Nat.le_of_ble_eq_true rfl) uu986 rfl rfl rfl dX6_judge_27 ?_
      refine s_iload_n C 31 2 rfl dX6_judge_30 rfl ?_
      obtain ⟨r13, q14, hf⟩ := bn_s hf
      refine s_callW (T := TX6) (N := 26) (ci := 5) (q0 := 0) (rest := []) C 34 (c_X6_shareOf l D cI adK adV ad m_left m_bites m_many m_imageLeft m_imageBites m_imageMany m_wasLeft m_wasBites m_wasMany m_hasImage m_letterMany (0 : Int32) m_place m_seed m_kind m_figure m_imageKind m_imageFigure m_wasKind m_wasFigure m_letters m_row m_refused m_numbers m_counted m_few m_left v9 r13 q14) (gV uu1198 uu1200 uu1582 uu6 uu1201) hd_X6_shareOf rfl ⟨rfl, rfl⟩ ⟨Nat.le_of_ble_eq_true rfl, Nat.le_of_ble_eq_true rfl⟩ ⟨Nat.le_of_ble_eq_true rfl, Nat.le_of_ble_eq_true rfl⟩ rfl rfl rfl (Nat.le_of_ble_eq_true rfl) rfl dX6_judge_31 (fun _ => ?_)
      refine s_aload_n C 35 0 rfl dX6_judge_34 rfl ?_
      refine s_get (C1 := RX6) (T := TX6) (N := 26) (ci := 5) C 38 0 17 uX6 rfl rfl (Nat.le_of_ble_eq_true rfl) uu1020 rfl rfl rfl dX6_judge_35 ?_
      refine s_iload_n C 39 2 rfl dX6_judge_38 rfl ?_
      obtain ⟨h15, hf⟩ := ck_in hf
      refine s_iald C 40 8 rfl h15 rfl dX6_judge_39 ?_
      refine s_icmp_eq C 45 43 rfl dX6_judge_40 rfl (fun hc16 => ?_) (fun hc16 => ?_)
      · replace hf := ite_t hc16 hf
        refine s_iinc (lv1 := [(2, .int (v9 + (1 : Int32))), (0, .ref (ad 0)), (1, .int m_rowMany)]) C 48 2 2 rfl dX6_judge_45 rfl ic_1 (Nat.le_of_ble_eq_true rfl) rfl ?_
        refine s_goto C 12 dX6_judge_48 rfl ?_
        exact s_lv [1, 2, 0] rfl (ih10 (v9 + (1 : Int32) : Int32) hf)
      · replace hf := ite_f hc16 hf
        refine s_iload_n C 44 2 rfl dX6_judge_43 rfl ?_
        obtain rfl := Option.some.inj hf
        exact s_iret C (fun i => i) hr hlk rfl rfl dX6_judge_44


theorem hd_X6_clear : yX6_clear.cls = RX6 ∧ yX6_clear.cls ≠ "java/lang/invoke/MethodHandle" ∧ yX6_clear.cls ≠ "java/lang/invoke/VarHandle" ∧ (parseMethodDescriptor yX6_clear.desc).map (fun d => d.parameters.length) = some 0 := by decide +kernel
set_option maxHeartbeats 4000000 in
set_option maxRecDepth 100000 in
theorem c_X6_clear (l : Launch) (D : va_G) (cI : ClassId) (adK adV : Nat → Nat) (ad : Nat → Nat) (m_left : Int32) (m_bites : Int32) (m_many : Int32) (m_imageLeft : Int32) (m_imageBites : Int32) (m_imageMany : Int32) (m_wasLeft : Int32) (m_wasBites : Int32) (m_wasMany : Int32) (m_hasImage : Int32) (m_letterMany : Int32) (m_rowMany : Int32) (m_place : Int32) (m_seed : Int32) (m_kind : (Nat → Int32)) (m_figure : (Nat → Int32)) (m_imageKind : (Nat → Int32)) (m_imageFigure : (Nat → Int32)) (m_wasKind : (Nat → Int32)) (m_wasFigure : (Nat → Int32)) (m_letters : (Nat → Int32)) (m_row : (Nat → Int32)) (m_refused : (Nat → Int32)) (m_numbers : (Nat → Int32)) (m_counted : (Nat → Int32)) (m_few : (Nat → Int32))  (o : Int32 × Int32) (hf : f_X6_clear m_rowMany = some o) : Ct l D cI adK adV yX6_clear (wy yX6_clear cX6_clear 2 (some .int)) { frames := 0, cells := 0, slots := 0, locals := 0 } 0 0 [.ref (ad 0)] (wM ad cI m_left m_bites m_many m_imageLeft m_imageBites m_imageMany m_wasLeft m_wasBites m_wasMany m_hasImage m_letterMany m_rowMany m_place m_seed m_kind m_figure m_imageKind m_imageFigure m_wasKind m_wasFigure m_letters m_row m_refused m_numbers m_counted m_few) (fun _ => (wM ad cI m_left m_bites m_many m_imageLeft m_imageBites m_imageMany m_wasLeft m_wasBites m_wasMany m_hasImage m_letterMany o.2 m_place m_seed m_kind m_figure m_imageKind m_imageFigure m_wasKind m_wasFigure m_letters m_row m_refused m_numbers m_counted m_few)) (some (.int o.1)) := by
  refine Ct.of (cc := cX6_clear) (nL := 2) (ret := (some .int)) (own := RX6) (by decide) (Nat.le_of_ble_eq_true rfl) rfl ?_
  intro p e s m args below meth c A C hr hlk hnm
  refine s_lv (lv1 := [(0, .ref (ad 0))]) [0] rfl ?_
  unfold f_X6_clear at hf
  refine s_aload_n C 1 0 rfl dX6_clear_0 rfl ?_
  refine s_get (C1 := RX6) (T := TX6) (N := 26) (ci := 5) C 4 0 20 uX6 rfl rfl (Nat.le_of_ble_eq_true rfl) uu1026 rfl rfl rfl dX6_clear_1 ?_
  refine s_istore_n (lv1 := [(1, .int m_rowMany), (0, .ref (ad 0))]) C 5 1 rfl dX6_clear_4 rfl (Nat.le_of_ble_eq_true rfl) rfl ?_
  refine s_aload_n C 6 1 rfl dX6_clear_5 rfl ?_
  refine s_iconst C 7 rfl dX6_clear_6 ic_0 ?_
  refine s_put (C1 := RX6) (T := TX6) (N := 26) (ci := 5) (ty := tyX6 20) (ws1 := (wM ad cI m_left m_bites m_many m_imageLeft m_imageBites m_imageMany m_wasLeft m_wasBites m_wasMany m_hasImage m_letterMany (0 : Int32) m_place m_seed m_kind m_figure m_imageKind m_imageFigure m_wasKind m_wasFigure m_letters m_row m_refused m_numbers m_counted m_few)) C 10 0 20 uX6 tyX6 tyX6_ok nmX6 rfl rfl (Nat.le_of_ble_eq_true rfl) uu1026 rfl rfl (tyX6_ok 20 (Nat.le_of_ble_eq_true rfl)) ⟨rfl, rfl⟩ (Nat.le_of_ble_eq_true rfl) rfl rfl dX6_clear_7 ?_
  refine s_iload_n C 11 0 rfl dX6_clear_10 rfl ?_
  obtain rfl := Option.some.inj hf
  exact s_iret C (fun i => i) hr hlk rfl rfl dX6_clear_11


theorem hd_X6_lots : yX6_lots.cls = RX6 ∧ yX6_lots.cls ≠ "java/lang/invoke/MethodHandle" ∧ yX6_lots.cls ≠ "java/lang/invoke/VarHandle" ∧ (parseMethodDescriptor yX6_lots.desc).map (fun d => d.parameters.length) = some 3 := by decide +kernel
set_option maxHeartbeats 4000000 in
set_option maxRecDepth 100000 in
theorem c_X6_lots (l : Launch) (D : va_G) (cI : ClassId) (adK adV : Nat → Nat) (ad : Nat → Nat) (m_left : Int32) (m_bites : Int32) (m_many : Int32) (m_imageLeft : Int32) (m_imageBites : Int32) (m_imageMany : Int32) (m_wasLeft : Int32) (m_wasBites : Int32) (m_wasMany : Int32) (m_hasImage : Int32) (m_letterMany : Int32) (m_rowMany : Int32) (m_place : Int32) (m_seed : Int32) (m_kind : (Nat → Int32)) (m_figure : (Nat → Int32)) (m_imageKind : (Nat → Int32)) (m_imageFigure : (Nat → Int32)) (m_wasKind : (Nat → Int32)) (m_wasFigure : (Nat → Int32)) (m_letters : (Nat → Int32)) (m_row : (Nat → Int32)) (m_refused : (Nat → Int32)) (m_numbers : (Nat → Int32)) (m_counted : (Nat → Int32)) (m_few : (Nat → Int32)) (a1 : Int32) (a2 : Int32) (a3 : Int32) (o : Int32 × Int32 × (Nat → Int32)) (hf : f_X6_lots m_left m_many m_seed m_kind m_figure m_refused a1 a2 a3 = some o) : Ct l D cI adK adV yX6_lots (wy yX6_lots cX6_lots 10 (some .int)) { frames := 6, cells := 0, slots := 0, locals := 140 } 0 0 [.ref (ad 0), .int a1, .int a2, .int a3] (wM ad cI m_left m_bites m_many m_imageLeft m_imageBites m_imageMany m_wasLeft m_wasBites m_wasMany m_hasImage m_letterMany m_rowMany m_place m_seed m_kind m_figure m_imageKind m_imageFigure m_wasKind m_wasFigure m_letters m_row m_refused m_numbers m_counted m_few) (fun _ => (wM ad cI m_left m_bites m_many m_imageLeft m_imageBites m_imageMany m_wasLeft m_wasBites m_wasMany m_hasImage m_letterMany m_rowMany m_place o.2.1 m_kind m_figure m_imageKind m_imageFigure m_wasKind m_wasFigure m_letters m_row o.2.2 m_numbers m_counted m_few)) (some (.int o.1)) := by
  refine Ct.of (cc := cX6_lots) (nL := 10) (ret := (some .int)) (own := RX6) (by decide) (Nat.le_of_ble_eq_true rfl) rfl ?_
  intro p e s m args below meth c A C hr hlk hnm
  refine s_lv (lv1 := [(0, .ref (ad 0)), (1, .int a1), (2, .int a2), (3, .int a3)]) [0, 1, 2, 3] rfl ?_
  unfold f_X6_lots at hf
  refine s_iload_n C 1 1 rfl dX6_lots_0 rfl ?_
  refine s_iconst C 2 rfl dX6_lots_1 ic_1 ?_
  refine s_icmp_ge C 12 5 rfl dX6_lots_2 rfl (fun hc70 => ?_) (fun hc70 => ?_)
  · replace hf := ite_t hc70 hf
    refine s_iload_n C 13 1 rfl dX6_lots_12 rfl ?_
    refine s_bipush C 15 rfl dX6_lots_13 bp_20 ?_
    refine s_icmp_le C 25 18 rfl dX6_lots_15 rfl (fun hc67 => ?_) (fun hc67 => ?_)
    · replace hf := ite_t hc67 hf
      refine s_iload_n C 26 3 rfl dX6_lots_25 rfl ?_
      refine s_iconst C 27 rfl dX6_lots_26 ic_0 ?_
      refine s_iconst C 28 rfl dX6_lots_27 ic_1 ?_
      obtain ⟨r1, q2, hf⟩ := bn_s hf
      refine s_callS0 (host := "") (rest := []) C 31 (c_X6_isIn l D cI adK adV a3 (0 : Int32) (1 : Int32) r1 q2) (gS uu1106 uu1108 uu6 uu1109) hd_X6_isIn rfl ⟨rfl, rfl⟩ ⟨Nat.le_of_ble_eq_true rfl, Nat.le_of_ble_eq_true rfl⟩ ⟨Nat.le_of_ble_eq_true rfl, Nat.le_of_ble_eq_true rfl⟩ rfl (Nat.le_of_ble_eq_true rfl) rfl dX6_lots_28 ?_
      refine s_if_ne C 41 34 rfl dX6_lots_31 rfl (fun hc64 => ?_) (fun hc64 => ?_)
      · replace hf := ite_f hc64 hf
        refine s_aload_n C 42 0 rfl dX6_lots_41 rfl ?_
        refine s_iload_n C 43 2 rfl dX6_lots_42 rfl ?_
        refine s_put (C1 := RX6) (T := TX6) (N := 26) (ci := 5) (ty := tyX6 25) (ws1 := (wM ad cI m_left m_bites m_many m_imageLeft m_imageBites m_imageMany m_wasLeft m_wasBites m_wasMany m_hasImage m_letterMany m_rowMany m_place a2 m_kind m_figure m_imageKind m_imageFigure m_wasKind m_wasFigure m_letters m_row m_refused m_numbers m_counted m_few)) C 46 0 25 uX6 tyX6 tyX6_ok nmX6 rfl rfl (Nat.le_of_ble_eq_true rfl) uu1036 rfl rfl (tyX6_ok 25 (Nat.le_of_ble_eq_true rfl)) ⟨rfl, rfl⟩ (Nat.le_of_ble_eq_true rfl) rfl rfl dX6_lots_43 ?_
        refine s_iconst C 47 rfl dX6_lots_46 ic_0 ?_
        refine s_istore (lv1 := [(4, .int (0 : Int32)), (0, .ref (ad 0)), (1, .int a1), (2, .int a2), (3, .int a3)]) C 49 4 rfl dX6_lots_47 (Nat.le_of_ble_eq_true rfl) rfl ?_
        refine s_iconst C 50 rfl dX6_lots_49 ic_0 ?_
        refine s_istore (lv1 := [(5, .int (0 : Int32)), (4, .int (0 : Int32)), (0, .ref (ad 0)), (1, .int a1), (2, .int a2), (3, .int a3)]) C 52 5 rfl dX6_lots_50 (Nat.le_of_ble_eq_true rfl) rfl ?_
        refine s_lv (lv1 := [(0, .ref (ad 0)), (1, .int a1), (3, .int a3), (4, .int (0 : Int32)), (5, .int (0 : Int32))]) [2, 3, 5, 1, 0] rfl ?_
        refine s_loop (α := Int32 × Int32 × Int32) (fun n v37 => f_X6_lots_52 a1 a3 m_left m_many m_kind m_figure m_refused n v37.1 v37.2.1 v37.2.2) 52 (fun v37 => [(0, .ref (ad 0)), (1, .int a1), (3, .int a3), (4, .int v37.1), (5, .int v37.2.1)]) (fun v37 => (wM ad cI m_left m_bites m_many m_imageLeft m_imageBites m_imageMany m_wasLeft m_wasBites m_wasMany m_hasImage m_letterMany m_rowMany m_place v37.2.2 m_kind m_figure m_imageKind m_imageFigure m_wasKind m_wasFigure m_letters m_row m_refused m_numbers m_counted m_few)) 1000 ((0 : Int32), (0 : Int32), a2) hf (fun v37 hf => by simp only [f_X6_lots_52] at hf; exact absurd hf (by simp)) (fun n ih38 v37 hf => ?_)
        replace hf := (f_X6_lots_52_s _ _ _ _ _ _ _ _ _ _ _).symm.trans hf
        refine s_iload C 54 4 rfl dX6_lots_52 rfl ?_
        refine s_iload_n C 55 1 rfl dX6_lots_54 rfl ?_
        refine s_icmp_ge C 163 58 rfl dX6_lots_55 rfl (fun hc61 => ?_) (fun hc61 => ?_)
        · replace hf := ite_t hc61 hf
          refine s_iload C 165 3 rfl dX6_lots_163 rfl ?_
          obtain rfl := Option.some.inj hf
          exact s_iret C (fun i => i) hr hlk rfl rfl dX6_lots_165
        · replace hf := ite_f hc61 hf
          refine s_aload_n C 59 0 rfl dX6_lots_58 rfl ?_
          refine s_get (C1 := RX6) (T := TX6) (N := 26) (ci := 5) C 62 0 0 uX6 rfl rfl (Nat.le_of_ble_eq_true rfl) uu986 rfl rfl rfl dX6_lots_59 ?_
          refine s_istore (lv1 := [(6, .int m_left), (0, .ref (ad 0)), (1, .int a1), (3, .int a3), (4, .int v37.1), (5, .int v37.2.1)]) C 64 6 rfl dX6_lots_62 (Nat.le_of_ble_eq_true rfl) rfl ?_
          refine s_iconst C 65 rfl dX6_lots_64 ic_0 ?_
          refine s_istore (lv1 := [(7, .int (0 : Int32)), (6, .int m_left), (0, .ref (ad 0)), (1, .int a1), (3, .int a3), (4, .int v37.1), (5, .int v37.2.1)]) C 67 7 rfl dX6_lots_65 (Nat.le_of_ble_eq_true rfl) rfl ?_
          refine s_lv (lv1 := [(0, .ref (ad 0)), (1, .int a1), (3, .int a3), (4, .int v37.1), (5, .int v37.2.1), (6, .int m_left), (7, .int (0 : Int32))]) [2, 3, 4, 5, 6, 1, 0] rfl ?_
          refine s_kont (γ := Int32 × Int32) (o := o) (fun KQ => f_X6_lots_67 KQ 1000 m_left (0 : Int32) v37.2.2 = some o) 126 (fun e40 => [(0, .ref (ad 0)), (1, .int a1), (3, .int a3), (4, .int v37.1), (5, .int v37.2.1), (6, .int e40.1)]) (fun e40 => []) (fun e40 => (wM ad cI m_left m_bites m_many m_imageLeft m_imageBites m_imageMany m_wasLeft m_wasBites m_wasMany m_hasImage m_letterMany m_rowMany m_place e40.2 m_kind m_figure m_imageKind m_imageFigure m_wasKind m_wasFigure m_letters m_row m_refused m_numbers m_counted m_few)) hf (fun e40 hf => ?_) (fun k39 hk39 hf => ?_)
          · refine s_iload C 128 3 rfl dX6_lots_126 rfl ?_
            refine s_iload_n C 129 2 rfl dX6_lots_128 rfl ?_
            refine s_bn (α := Int32) 154 (fun j41 => [(0, .ref (ad 0)), (1, .int a1), (3, .int a3), (5, .int v37.2.1)]) (fun j41 => [.int j41, .int v37.1]) (fun j41 => (wM ad cI m_left m_bites m_many m_imageLeft m_imageBites m_imageMany m_wasLeft m_wasBites m_wasMany m_hasImage m_letterMany m_rowMany m_place e40.2 m_kind m_figure m_imageKind m_imageFigure m_wasKind m_wasFigure m_letters m_row m_refused m_numbers m_counted m_few)) hf (fun j41 hf => ?_) (fun hj hf => ?_)
            · refine s_iadd C 155 rfl dX6_lots_154 ?_
              refine s_istore (lv1 := [(4, .int (v37.1 + j41)), (0, .ref (ad 0)), (1, .int a1), (3, .int a3), (5, .int v37.2.1)]) C 157 4 rfl dX6_lots_155 (Nat.le_of_ble_eq_true rfl) rfl ?_
              refine s_iinc (lv1 := [(5, .int (v37.2.1 + (1 : Int32))), (4, .int (v37.1 + j41)), (0, .ref (ad 0)), (1, .int a1), (3, .int a3)]) C 160 5 4 rfl dX6_lots_157 rfl ic_1 (Nat.le_of_ble_eq_true rfl) rfl ?_
              refine s_goto C 52 dX6_lots_160 rfl ?_
              exact s_lv [2, 3, 4, 1, 0] rfl (ih38 ((v37.1 + j41, v37.2.1 + (1 : Int32), e40.2) : Int32 × Int32 × Int32) hf)
            · refine s_if_ne C 141 132 rfl dX6_lots_129 rfl (fun hc47 => ?_) (fun hc47 => ?_)
              · replace hf := bn_f hc47 hf
                refine s_iload C 143 5 rfl dX6_lots_141 rfl ?_
                obtain ⟨r42, q43, hf⟩ := bn_b hf
                refine s_callS0 (host := "") (rest := [.int v37.1]) C 146 (c_X6_deed l D cI adK adV e40.1 r42 q43) (gS uu1208 uu1210 uu6 uu1211) hd_X6_deed rfl ⟨rfl, rfl⟩ ⟨Nat.le_of_ble_eq_true rfl, Nat.le_of_ble_eq_true rfl⟩ ⟨Nat.le_of_ble_eq_true rfl, Nat.le_of_ble_eq_true rfl⟩ rfl (Nat.le_of_ble_eq_true rfl) rfl dX6_lots_143 ?_
                refine s_if_ne C 153 149 rfl dX6_lots_146 rfl (fun hc44 => ?_) (fun hc44 => ?_)
                · replace hf := bn_f hc44 hf
                  refine s_iconst C 154 rfl dX6_lots_153 ic_0 ?_
                  replace hf := bn_i hf
                  exact s_lv [0, 1, 2, 4] rfl (hj ((0 : Int32) : Int32) hf)
                · replace hf := bn_t hc44 hf
                  refine s_iconst C 150 rfl dX6_lots_149 ic_1 ?_
                  refine s_goto C 154 dX6_lots_150 rfl ?_
                  replace hf := bn_i hf
                  exact s_lv [0, 1, 2, 4] rfl (hj ((1 : Int32) : Int32) hf)
              · replace hf := bn_t hc47 hf
                refine s_aload_n C 133 0 rfl dX6_lots_132 rfl ?_
                refine s_iload C 135 5 rfl dX6_lots_133 rfl ?_
                obtain ⟨r45, q46, hf⟩ := bn_b hf
                refine s_callW (T := TX6) (N := 26) (ci := 5) (q0 := 0) (rest := [.int v37.1]) C 138 (c_X6_sharesOf l D cI adK adV ad m_left m_bites m_many m_imageLeft m_imageBites m_imageMany m_wasLeft m_wasBites m_wasMany m_hasImage m_letterMany m_rowMany m_place e40.2 m_kind m_figure m_imageKind m_imageFigure m_wasKind m_wasFigure m_letters m_row m_refused m_numbers m_counted m_few e40.1 r45 q46) (gV uu1274 uu1276 uu1583 uu6 uu1277) hd_X6_sharesOf rfl ⟨rfl, rfl⟩ ⟨Nat.le_of_ble_eq_true rfl, Nat.le_of_ble_eq_true rfl⟩ ⟨Nat.le_of_ble_eq_true rfl, Nat.le_of_ble_eq_true rfl⟩ rfl rfl rfl (Nat.le_of_ble_eq_true rfl) rfl dX6_lots_135 (fun _ => ?_)
                refine s_goto C 154 dX6_lots_138 rfl ?_
                replace hf := bn_i hf
                exact s_lv [0, 1, 2, 4] rfl (hj (r45 : Int32) hf)
          · skip
            refine s_loop (α := Int32 × Int32 × Int32) (fun n v48 => f_X6_lots_67 k39 n v48.1 v48.2.1 v48.2.2) 67 (fun v48 => [(0, .ref (ad 0)), (1, .int a1), (3, .int a3), (4, .int v37.1), (5, .int v37.2.1), (6, .int v48.1), (7, .int v48.2.1)]) (fun v48 => (wM ad cI m_left m_bites m_many m_imageLeft m_imageBites m_imageMany m_wasLeft m_wasBites m_wasMany m_hasImage m_letterMany m_rowMany m_place v48.2.2 m_kind m_figure m_imageKind m_imageFigure m_wasKind m_wasFigure m_letters m_row m_refused m_numbers m_counted m_few)) 1000 (m_left, (0 : Int32), v37.2.2) hf (fun v48 hf => by simp only [f_X6_lots_67] at hf; exact absurd hf (by simp)) (fun n ih49 v48 hf => ?_)
            replace hf := (f_X6_lots_67_s _ _ _ _ _).symm.trans hf
            refine s_iload C 69 6 rfl dX6_lots_67 rfl ?_
            refine s_bipush C 71 rfl dX6_lots_69 bp_6 ?_
            refine s_icmp_ge C 126 74 rfl dX6_lots_71 rfl (fun hc60 => ?_) (fun hc60 => ?_)
            · replace hf := ite_t hc60 hf
              exact s_lv [0, 1, 2, 3, 4, 5] rfl (hk39 ((v48.1, v48.2.2) : Int32 × Int32) hf)
            · replace hf := ite_f hc60 hf
              refine s_aload_n C 75 0 rfl dX6_lots_74 rfl ?_
              refine s_iconst C 76 rfl dX6_lots_75 ic_4 ?_
              obtain ⟨r50, q51, hf⟩ := bn_s hf
              refine s_callW (T := TX6) (N := 26) (ci := 5) (q0 := 0) (rest := []) C 79 (c_X6_drawn l D cI adK adV ad m_left m_bites m_many m_imageLeft m_imageBites m_imageMany m_wasLeft m_wasBites m_wasMany m_hasImage m_letterMany m_rowMany m_place v48.2.2 m_kind m_figure m_imageKind m_imageFigure m_wasKind m_wasFigure m_letters m_row m_refused m_numbers m_counted m_few (4 : Int32) r50 q51) (gV uu1508 uu1510 uu1596 uu6 uu1511) hd_X6_drawn rfl ⟨rfl, rfl⟩ ⟨Nat.le_of_ble_eq_true rfl, Nat.le_of_ble_eq_true rfl⟩ ⟨Nat.le_of_ble_eq_true rfl, Nat.le_of_ble_eq_true rfl⟩ rfl rfl rfl (Nat.le_of_ble_eq_true rfl) rfl dX6_lots_76 (fun _ => ?_)
              refine s_istore (lv1 := [(8, .int r50.1), (0, .ref (ad 0)), (1, .int a1), (3, .int a3), (4, .int v37.1), (5, .int v37.2.1), (6, .int v48.1), (7, .int v48.2.1)]) C 81 8 rfl dX6_lots_79 (Nat.le_of_ble_eq_true rfl) rfl ?_
              refine s_aload_n C 82 1 rfl dX6_lots_81 rfl ?_
              refine s_bipush C 84 rfl dX6_lots_82 bp_25 ?_
              obtain ⟨r52, q53, hf⟩ := bn_s hf
              refine s_callW (T := TX6) (N := 26) (ci := 5) (q0 := 0) (rest := []) C 87 (c_X6_drawn l D cI adK adV ad m_left m_bites m_many m_imageLeft m_imageBites m_imageMany m_wasLeft m_wasBites m_wasMany m_hasImage m_letterMany m_rowMany m_place r50.2 m_kind m_figure m_imageKind m_imageFigure m_wasKind m_wasFigure m_letters m_row m_refused m_numbers m_counted m_few (25 : Int32) r52 q53) (gV uu1508 uu1510 uu1596 uu6 uu1511) hd_X6_drawn rfl ⟨rfl, rfl⟩ ⟨Nat.le_of_ble_eq_true rfl, Nat.le_of_ble_eq_true rfl⟩ ⟨Nat.le_of_ble_eq_true rfl, Nat.le_of_ble_eq_true rfl⟩ rfl rfl rfl (Nat.le_of_ble_eq_true rfl) rfl dX6_lots_84 (fun _ => ?_)
              refine s_istore (lv1 := [(9, .int r52.1), (8, .int r50.1), (0, .ref (ad 0)), (1, .int a1), (3, .int a3), (4, .int v37.1), (5, .int v37.2.1), (6, .int v48.1), (7, .int v48.2.1)]) C 89 9 rfl dX6_lots_87 (Nat.le_of_ble_eq_true rfl) rfl ?_
              refine s_iload C 91 7 rfl dX6_lots_89 rfl ?_
              refine s_iload C 93 1 rfl dX6_lots_91 rfl ?_
              refine s_iload C 95 0 rfl dX6_lots_93 rfl ?_
              obtain ⟨r54, q55, hf⟩ := bn_s hf
              refine s_callS0 (host := "") (rest := []) C 98 (c_X6_canBite l D cI adK adV v48.1 r50.1 r52.1 r54 q55) (gS uu1126 uu1128 uu6 uu1129) hd_X6_canBite rfl ⟨rfl, rfl⟩ ⟨Nat.le_of_ble_eq_true rfl, Nat.le_of_ble_eq_true rfl⟩ ⟨Nat.le_of_ble_eq_true rfl, Nat.le_of_ble_eq_true rfl⟩ rfl (Nat.le_of_ble_eq_true rfl) rfl dX6_lots_95 ?_
              refine s_bn (α := Int32) 118 (fun j56 => [(0, .ref (ad 0)), (1, .int a1), (3, .int a3), (4, .int v37.1), (5, .int v37.2.1), (7, .int v48.2.1)]) (fun j56 => [.int j56]) (fun j56 => (wM ad cI m_left m_bites m_many m_imageLeft m_imageBites m_imageMany m_wasLeft m_wasBites m_wasMany m_hasImage m_letterMany m_rowMany m_place r52.2 m_kind m_figure m_imageKind m_imageFigure m_wasKind m_wasFigure m_letters m_row m_refused m_numbers m_counted m_few)) hf (fun j56 hf => ?_) (fun hj hf => ?_)
              · refine s_istore (lv1 := [(6, .int j56), (0, .ref (ad 0)), (1, .int a1), (3, .int a3), (4, .int v37.1), (5, .int v37.2.1), (7, .int v48.2.1)]) C 120 6 rfl dX6_lots_118 (Nat.le_of_ble_eq_true rfl) rfl ?_
                refine s_iinc (lv1 := [(7, .int (v48.2.1 + (1 : Int32))), (6, .int j56), (0, .ref (ad 0)), (1, .int a1), (3, .int a3), (4, .int v37.1), (5, .int v37.2.1)]) C 123 7 6 rfl dX6_lots_120 rfl ic_1 (Nat.le_of_ble_eq_true rfl) rfl ?_
                refine s_goto C 67 dX6_lots_123 rfl ?_
                exact s_lv [2, 3, 4, 5, 6, 1, 0] rfl (ih49 ((j56, v48.2.1 + (1 : Int32), r52.2) : Int32 × Int32 × Int32) hf)
              · refine s_if_eq C 116 101 rfl dX6_lots_98 rfl (fun hc59 => ?_) (fun hc59 => ?_)
                · replace hf := bn_t hc59 hf
                  refine s_iload C 118 7 rfl dX6_lots_116 rfl ?_
                  replace hf := bn_i hf
                  exact s_lv [2, 3, 4, 5, 6, 8] rfl (hj (v48.1 : Int32) hf)
                · replace hf := bn_f hc59 hf
                  refine s_iload C 103 7 rfl dX6_lots_101 rfl ?_
                  refine s_iload C 105 1 rfl dX6_lots_103 rfl ?_
                  refine s_iload C 107 0 rfl dX6_lots_105 rfl ?_
                  obtain ⟨r57, q58, hf⟩ := bn_b hf
                  refine s_callS0 (host := "") (rest := [.int v48.1]) C 110 (c_X6_bite l D cI adK adV r50.1 r52.1 r57 q58) (gS uu1131 uu1133 uu6 uu1134) hd_X6_bite rfl ⟨rfl, rfl⟩ ⟨Nat.le_of_ble_eq_true rfl, Nat.le_of_ble_eq_true rfl⟩ ⟨Nat.le_of_ble_eq_true rfl, Nat.le_of_ble_eq_true rfl⟩ rfl (Nat.le_of_ble_eq_true rfl) rfl dX6_lots_107 ?_
                  refine s_iconst C 111 rfl dX6_lots_110 ic_m1 ?_
                  refine s_ixor C 112 rfl dX6_lots_111 ?_
                  refine s_iand C 113 rfl dX6_lots_112 ?_
                  refine s_goto C 118 dX6_lots_113 rfl ?_
                  replace hf := bn_i hf
                  exact s_lv [2, 3, 4, 5, 6, 8] rfl (hj (v48.1 &&& (r57 ^^^ (-1 : Int32)) : Int32) hf)
      · replace hf := ite_t hc64 hf
        refine s_aload_n C 35 0 rfl dX6_lots_34 rfl ?_
        refine s_bipush C 37 rfl dX6_lots_35 bp_m2 ?_
        obtain ⟨r62, q63, hf⟩ := bn_s hf
        refine s_callW (T := TX6) (N := 26) (ci := 5) (q0 := 0) (rest := []) C 40 (c_X6_no l D cI adK adV ad m_left m_bites m_many m_imageLeft m_imageBites m_imageMany m_wasLeft m_wasBites m_wasMany m_hasImage m_letterMany m_rowMany m_place m_seed m_kind m_figure m_imageKind m_imageFigure m_wasKind m_wasFigure m_letters m_row m_refused m_numbers m_counted m_few (-2 : Int32) r62 q63) (gV uu1070 uu1072 uu1571 uu6 uu1073) hd_X6_no rfl ⟨rfl, rfl⟩ ⟨Nat.le_of_ble_eq_true rfl, Nat.le_of_ble_eq_true rfl⟩ ⟨Nat.le_of_ble_eq_true rfl, Nat.le_of_ble_eq_true rfl⟩ rfl rfl rfl (Nat.le_of_ble_eq_true rfl) rfl dX6_lots_37 (fun _ => ?_)
        obtain rfl := Option.some.inj hf
        exact s_iret C (fun i => i) hr hlk rfl rfl dX6_lots_40
    · replace hf := ite_f hc67 hf
      refine s_aload_n C 19 0 rfl dX6_lots_18 rfl ?_
      refine s_bipush C 21 rfl dX6_lots_19 bp_m6 ?_
      obtain ⟨r65, q66, hf⟩ := bn_s hf
      refine s_callW (T := TX6) (N := 26) (ci := 5) (q0 := 0) (rest := []) C 24 (c_X6_no l D cI adK adV ad m_left m_bites m_many m_imageLeft m_imageBites m_imageMany m_wasLeft m_wasBites m_wasMany m_hasImage m_letterMany m_rowMany m_place m_seed m_kind m_figure m_imageKind m_imageFigure m_wasKind m_wasFigure m_letters m_row m_refused m_numbers m_counted m_few (-6 : Int32) r65 q66) (gV uu1070 uu1072 uu1571 uu6 uu1073) hd_X6_no rfl ⟨rfl, rfl⟩ ⟨Nat.le_of_ble_eq_true rfl, Nat.le_of_ble_eq_true rfl⟩ ⟨Nat.le_of_ble_eq_true rfl, Nat.le_of_ble_eq_true rfl⟩ rfl rfl rfl (Nat.le_of_ble_eq_true rfl) rfl dX6_lots_21 (fun _ => ?_)
      obtain rfl := Option.some.inj hf
      exact s_iret C (fun i => i) hr hlk rfl rfl dX6_lots_24
  · replace hf := ite_f hc70 hf
    refine s_aload_n C 6 0 rfl dX6_lots_5 rfl ?_
    refine s_bipush C 8 rfl dX6_lots_6 bp_m4 ?_
    obtain ⟨r68, q69, hf⟩ := bn_s hf
    refine s_callW (T := TX6) (N := 26) (ci := 5) (q0 := 0) (rest := []) C 11 (c_X6_no l D cI adK adV ad m_left m_bites m_many m_imageLeft m_imageBites m_imageMany m_wasLeft m_wasBites m_wasMany m_hasImage m_letterMany m_rowMany m_place m_seed m_kind m_figure m_imageKind m_imageFigure m_wasKind m_wasFigure m_letters m_row m_refused m_numbers m_counted m_few (-4 : Int32) r68 q69) (gV uu1070 uu1072 uu1571 uu6 uu1073) hd_X6_no rfl ⟨rfl, rfl⟩ ⟨Nat.le_of_ble_eq_true rfl, Nat.le_of_ble_eq_true rfl⟩ ⟨Nat.le_of_ble_eq_true rfl, Nat.le_of_ble_eq_true rfl⟩ rfl rfl rfl (Nat.le_of_ble_eq_true rfl) rfl dX6_lots_8 (fun _ => ?_)
    obtain rfl := Option.some.inj hf
    exact s_iret C (fun i => i) hr hlk rfl rfl dX6_lots_11


theorem hd_X6_image : yX6_image.cls = RX6 ∧ yX6_image.cls ≠ "java/lang/invoke/MethodHandle" ∧ yX6_image.cls ≠ "java/lang/invoke/VarHandle" ∧ (parseMethodDescriptor yX6_image.desc).map (fun d => d.parameters.length) = some 0 := by decide +kernel
set_option maxHeartbeats 4000000 in
set_option maxRecDepth 100000 in
theorem c_X6_image (l : Launch) (D : va_G) (cI : ClassId) (adK adV : Nat → Nat) (ad : Nat → Nat) (m_left : Int32) (m_bites : Int32) (m_many : Int32) (m_imageLeft : Int32) (m_imageBites : Int32) (m_imageMany : Int32) (m_wasLeft : Int32) (m_wasBites : Int32) (m_wasMany : Int32) (m_hasImage : Int32) (m_letterMany : Int32) (m_rowMany : Int32) (m_place : Int32) (m_seed : Int32) (m_kind : (Nat → Int32)) (m_figure : (Nat → Int32)) (m_imageKind : (Nat → Int32)) (m_imageFigure : (Nat → Int32)) (m_wasKind : (Nat → Int32)) (m_wasFigure : (Nat → Int32)) (m_letters : (Nat → Int32)) (m_row : (Nat → Int32)) (m_refused : (Nat → Int32)) (m_numbers : (Nat → Int32)) (m_counted : (Nat → Int32)) (m_few : (Nat → Int32))  (o : Int32 × Int32 × Int32 × Int32 × Int32 × (Nat → Int32) × (Nat → Int32)) (hf : f_X6_image m_left m_bites m_many m_kind m_figure m_imageKind m_imageFigure = some o) : Ct l D cI adK adV yX6_image (wy yX6_image cX6_image 2 (some .int)) { frames := 0, cells := 0, slots := 0, locals := 0 } 0 0 [.ref (ad 0)] (wM ad cI m_left m_bites m_many m_imageLeft m_imageBites m_imageMany m_wasLeft m_wasBites m_wasMany m_hasImage m_letterMany m_rowMany m_place m_seed m_kind m_figure m_imageKind m_imageFigure m_wasKind m_wasFigure m_letters m_row m_refused m_numbers m_counted m_few) (fun _ => (wM ad cI m_left m_bites m_many o.2.1 o.2.2.1 o.2.2.2.1 m_wasLeft m_wasBites m_wasMany o.2.2.2.2.1 m_letterMany m_rowMany m_place m_seed m_kind m_figure o.2.2.2.2.2.1 o.2.2.2.2.2.2 m_wasKind m_wasFigure m_letters m_row m_refused m_numbers m_counted m_few)) (some (.int o.1)) := by
  refine Ct.of (cc := cX6_image) (nL := 2) (ret := (some .int)) (own := RX6) (by decide) (Nat.le_of_ble_eq_true rfl) rfl ?_
  intro p e s m args below meth c A C hr hlk hnm
  refine s_lv (lv1 := [(0, .ref (ad 0))]) [0] rfl ?_
  unfold f_X6_image at hf
  refine s_aload_n C 1 0 rfl dX6_image_0 rfl ?_
  refine s_aload_n C 2 0 rfl dX6_image_1 rfl ?_
  refine s_get (C1 := RX6) (T := TX6) (N := 26) (ci := 5) C 5 0 0 uX6 rfl rfl (Nat.le_of_ble_eq_true rfl) uu986 rfl rfl rfl dX6_image_2 ?_
  refine s_put (C1 := RX6) (T := TX6) (N := 26) (ci := 5) (ty := tyX6 3) (ws1 := (wM ad cI m_left m_bites m_many m_left m_imageBites m_imageMany m_wasLeft m_wasBites m_wasMany m_hasImage m_letterMany m_rowMany m_place m_seed m_kind m_figure m_imageKind m_imageFigure m_wasKind m_wasFigure m_letters m_row m_refused m_numbers m_counted m_few)) C 8 0 3 uX6 tyX6 tyX6_ok nmX6 rfl rfl (Nat.le_of_ble_eq_true rfl) uu992 rfl rfl (tyX6_ok 3 (Nat.le_of_ble_eq_true rfl)) ⟨rfl, rfl⟩ (Nat.le_of_ble_eq_true rfl) rfl rfl dX6_image_5 ?_
  refine s_aload_n C 9 0 rfl dX6_image_8 rfl ?_
  refine s_aload_n C 10 0 rfl dX6_image_9 rfl ?_
  refine s_get (C1 := RX6) (T := TX6) (N := 26) (ci := 5) C 13 0 1 uX6 rfl rfl (Nat.le_of_ble_eq_true rfl) uu988 rfl rfl rfl dX6_image_10 ?_
  refine s_put (C1 := RX6) (T := TX6) (N := 26) (ci := 5) (ty := tyX6 4) (ws1 := (wM ad cI m_left m_bites m_many m_left m_bites m_imageMany m_wasLeft m_wasBites m_wasMany m_hasImage m_letterMany m_rowMany m_place m_seed m_kind m_figure m_imageKind m_imageFigure m_wasKind m_wasFigure m_letters m_row m_refused m_numbers m_counted m_few)) C 16 0 4 uX6 tyX6 tyX6_ok nmX6 rfl rfl (Nat.le_of_ble_eq_true rfl) uu994 rfl rfl (tyX6_ok 4 (Nat.le_of_ble_eq_true rfl)) ⟨rfl, rfl⟩ (Nat.le_of_ble_eq_true rfl) rfl rfl dX6_image_13 ?_
  refine s_aload_n C 17 0 rfl dX6_image_16 rfl ?_
  refine s_aload_n C 18 0 rfl dX6_image_17 rfl ?_
  refine s_get (C1 := RX6) (T := TX6) (N := 26) (ci := 5) C 21 0 2 uX6 rfl rfl (Nat.le_of_ble_eq_true rfl) uu990 rfl rfl rfl dX6_image_18 ?_
  refine s_put (C1 := RX6) (T := TX6) (N := 26) (ci := 5) (ty := tyX6 5) (ws1 := (wM ad cI m_left m_bites m_many m_left m_bites m_many m_wasLeft m_wasBites m_wasMany m_hasImage m_letterMany m_rowMany m_place m_seed m_kind m_figure m_imageKind m_imageFigure m_wasKind m_wasFigure m_letters m_row m_refused m_numbers m_counted m_few)) C 24 0 5 uX6 tyX6 tyX6_ok nmX6 rfl rfl (Nat.le_of_ble_eq_true rfl) uu996 rfl rfl (tyX6_ok 5 (Nat.le_of_ble_eq_true rfl)) ⟨rfl, rfl⟩ (Nat.le_of_ble_eq_true rfl) rfl rfl dX6_image_21 ?_
  refine s_iconst C 25 rfl dX6_image_24 ic_0 ?_
  refine s_istore_n (lv1 := [(1, .int (0 : Int32)), (0, .ref (ad 0))]) C 26 1 rfl dX6_image_25 rfl (Nat.le_of_ble_eq_true rfl) rfl ?_
  refine s_lv (lv1 := [(0, .ref (ad 0)), (1, .int (0 : Int32))]) [1, 0] rfl ?_
  refine s_loop (α := Int32 × (Nat → Int32) × (Nat → Int32)) (fun n v6 => f_X6_image_26 m_bites m_left m_bites m_many m_kind m_figure n v6.1 v6.2.1 v6.2.2) 26 (fun v6 => [(0, .ref (ad 0)), (1, .int v6.1)]) (fun v6 => (wM ad cI m_left m_bites m_many m_left m_bites m_many m_wasLeft m_wasBites m_wasMany m_hasImage m_letterMany m_rowMany m_place m_seed m_kind m_figure v6.2.1 v6.2.2 m_wasKind m_wasFigure m_letters m_row m_refused m_numbers m_counted m_few)) 1000 ((0 : Int32), m_imageKind, m_imageFigure) hf (fun v6 hf => by simp only [f_X6_image_26] at hf; exact absurd hf (by simp)) (fun n ih7 v6 hf => ?_)
  replace hf := (f_X6_image_26_s _ _ _ _ _ _ _ _ _ _).symm.trans hf
  refine s_iload_n C 27 1 rfl dX6_image_26 rfl ?_
  refine s_iconst C 28 rfl dX6_image_27 ic_5 ?_
  refine s_icmp_ge C 61 31 rfl dX6_image_28 rfl (fun hc12 => ?_) (fun hc12 => ?_)
  · replace hf := ite_t hc12 hf
    refine s_aload_n C 62 0 rfl dX6_image_61 rfl ?_
    refine s_iconst C 63 rfl dX6_image_62 ic_1 ?_
    refine s_put (C1 := RX6) (T := TX6) (N := 26) (ci := 5) (ty := tyX6 15) (ws1 := (wM ad cI m_left m_bites m_many m_left m_bites m_many m_wasLeft m_wasBites m_wasMany (1 : Int32) m_letterMany m_rowMany m_place m_seed m_kind m_figure v6.2.1 v6.2.2 m_wasKind m_wasFigure m_letters m_row m_refused m_numbers m_counted m_few)) C 66 0 15 uX6 tyX6 tyX6_ok nmX6 rfl rfl (Nat.le_of_ble_eq_true rfl) uu1016 rfl rfl (tyX6_ok 15 (Nat.le_of_ble_eq_true rfl)) (by decide) (Nat.le_of_ble_eq_true rfl) rfl rfl dX6_image_63 ?_
    refine s_aload_n C 67 0 rfl dX6_image_66 rfl ?_
    refine s_get (C1 := RX6) (T := TX6) (N := 26) (ci := 5) C 70 0 1 uX6 rfl rfl (Nat.le_of_ble_eq_true rfl) uu988 rfl rfl rfl dX6_image_67 ?_
    obtain rfl := Option.some.inj hf
    exact s_iret C (fun i => i) hr hlk rfl rfl dX6_image_70
  · replace hf := ite_f hc12 hf
    refine s_aload_n C 32 0 rfl dX6_image_31 rfl ?_
    refine s_get (C1 := RX6) (T := TX6) (N := 26) (ci := 5) C 35 0 11 uX6 rfl rfl (Nat.le_of_ble_eq_true rfl) uu1008 rfl rfl rfl dX6_image_32 ?_
    refine s_iload_n C 36 1 rfl dX6_image_35 rfl ?_
    refine s_aload_n C 37 0 rfl dX6_image_36 rfl ?_
    refine s_get (C1 := RX6) (T := TX6) (N := 26) (ci := 5) C 40 0 9 uX6 rfl rfl (Nat.le_of_ble_eq_true rfl) uu1004 rfl rfl rfl dX6_image_37 ?_
    refine s_iload_n C 41 1 rfl dX6_image_40 rfl ?_
    obtain ⟨h8, hf⟩ := ck_in hf
    refine s_iald C 42 1 rfl h8 rfl dX6_image_41 ?_
    obtain ⟨h9, hf⟩ := ck_in hf
    refine s_iast (ws1 := (wM ad cI m_left m_bites m_many m_left m_bites m_many m_wasLeft m_wasBites m_wasMany m_hasImage m_letterMany m_rowMany m_place m_seed m_kind m_figure (upd v6.2.1 v6.1.toNatClampNeg (m_kind v6.1.toNatClampNeg)) v6.2.2 m_wasKind m_wasFigure m_letters m_row m_refused m_numbers m_counted m_few)) C 43 3 rfl h9 rfl rfl dX6_image_42 ?_
    refine s_aload_n C 44 0 rfl dX6_image_43 rfl ?_
    refine s_get (C1 := RX6) (T := TX6) (N := 26) (ci := 5) C 47 0 12 uX6 rfl rfl (Nat.le_of_ble_eq_true rfl) uu1010 rfl rfl rfl dX6_image_44 ?_
    refine s_iload_n C 48 1 rfl dX6_image_47 rfl ?_
    refine s_aload_n C 49 0 rfl dX6_image_48 rfl ?_
    refine s_get (C1 := RX6) (T := TX6) (N := 26) (ci := 5) C 52 0 10 uX6 rfl rfl (Nat.le_of_ble_eq_true rfl) uu1006 rfl rfl rfl dX6_image_49 ?_
    refine s_iload_n C 53 1 rfl dX6_image_52 rfl ?_
    obtain ⟨h10, hf⟩ := ck_in hf
    refine s_iald C 54 2 rfl h10 rfl dX6_image_53 ?_
    obtain ⟨h11, hf⟩ := ck_in hf
    refine s_iast (ws1 := (wM ad cI m_left m_bites m_many m_left m_bites m_many m_wasLeft m_wasBites m_wasMany m_hasImage m_letterMany m_rowMany m_place m_seed m_kind m_figure (upd v6.2.1 v6.1.toNatClampNeg (m_kind v6.1.toNatClampNeg)) (upd v6.2.2 v6.1.toNatClampNeg (m_figure v6.1.toNatClampNeg)) m_wasKind m_wasFigure m_letters m_row m_refused m_numbers m_counted m_few)) C 55 4 rfl h11 rfl rfl dX6_image_54 ?_
    refine s_iinc (lv1 := [(1, .int (v6.1 + (1 : Int32))), (0, .ref (ad 0))]) C 58 1 1 rfl dX6_image_55 rfl ic_1 (Nat.le_of_ble_eq_true rfl) rfl ?_
    refine s_goto C 26 dX6_image_58 rfl ?_
    exact s_lv [1, 0] rfl (ih7 ((v6.1 + (1 : Int32), upd v6.2.1 v6.1.toNatClampNeg (m_kind v6.1.toNatClampNeg), upd v6.2.2 v6.1.toNatClampNeg (m_figure v6.1.toNatClampNeg)) : Int32 × (Nat → Int32) × (Nat → Int32)) hf)


theorem hd_X6_on : yX6_on.cls = RX6 ∧ yX6_on.cls ≠ "java/lang/invoke/MethodHandle" ∧ yX6_on.cls ≠ "java/lang/invoke/VarHandle" ∧ (parseMethodDescriptor yX6_on.desc).map (fun d => d.parameters.length) = some 0 := by decide +kernel
set_option maxHeartbeats 4000000 in
set_option maxRecDepth 100000 in
theorem c_X6_on (l : Launch) (D : va_G) (cI : ClassId) (adK adV : Nat → Nat) (ad : Nat → Nat) (m_left : Int32) (m_bites : Int32) (m_many : Int32) (m_imageLeft : Int32) (m_imageBites : Int32) (m_imageMany : Int32) (m_wasLeft : Int32) (m_wasBites : Int32) (m_wasMany : Int32) (m_hasImage : Int32) (m_letterMany : Int32) (m_rowMany : Int32) (m_place : Int32) (m_seed : Int32) (m_kind : (Nat → Int32)) (m_figure : (Nat → Int32)) (m_imageKind : (Nat → Int32)) (m_imageFigure : (Nat → Int32)) (m_wasKind : (Nat → Int32)) (m_wasFigure : (Nat → Int32)) (m_letters : (Nat → Int32)) (m_row : (Nat → Int32)) (m_refused : (Nat → Int32)) (m_numbers : (Nat → Int32)) (m_counted : (Nat → Int32)) (m_few : (Nat → Int32))  (o : Int32 × Int32 × Int32 × Int32 × (Nat → Int32) × (Nat → Int32) × (Nat → Int32)) (hf : f_X6_on m_left m_bites m_many m_imageLeft m_imageBites m_imageMany m_hasImage m_kind m_figure m_imageKind m_imageFigure m_refused = some o) : Ct l D cI adK adV yX6_on (wy yX6_on cX6_on 2 (some .int)) { frames := 1, cells := 0, slots := 0, locals := 21 } 0 0 [.ref (ad 0)] (wM ad cI m_left m_bites m_many m_imageLeft m_imageBites m_imageMany m_wasLeft m_wasBites m_wasMany m_hasImage m_letterMany m_rowMany m_place m_seed m_kind m_figure m_imageKind m_imageFigure m_wasKind m_wasFigure m_letters m_row m_refused m_numbers m_counted m_few) (fun _ => (wM ad cI o.2.1 o.2.2.1 o.2.2.2.1 m_imageLeft m_imageBites m_imageMany m_wasLeft m_wasBites m_wasMany m_hasImage m_letterMany m_rowMany m_place m_seed o.2.2.2.2.1 o.2.2.2.2.2.1 m_imageKind m_imageFigure m_wasKind m_wasFigure m_letters m_row o.2.2.2.2.2.2 m_numbers m_counted m_few)) (some (.int o.1)) := by
  refine Ct.of (cc := cX6_on) (nL := 2) (ret := (some .int)) (own := RX6) (by decide) (Nat.le_of_ble_eq_true rfl) rfl ?_
  intro p e s m args below meth c A C hr hlk hnm
  refine s_lv (lv1 := [(0, .ref (ad 0))]) [0] rfl ?_
  unfold f_X6_on at hf
  refine s_aload_n C 1 0 rfl dX6_on_0 rfl ?_
  refine s_get (C1 := RX6) (T := TX6) (N := 26) (ci := 5) C 4 0 15 uX6 rfl rfl (Nat.le_of_ble_eq_true rfl) uu1016 rfl rfl rfl dX6_on_1 ?_
  refine s_if_ne C 14 7 rfl dX6_on_4 rfl (fun hc15 => ?_) (fun hc15 => ?_)
  · replace hf := ite_f hc15 hf
    refine s_aload_n C 15 0 rfl dX6_on_14 rfl ?_
    refine s_aload_n C 16 0 rfl dX6_on_15 rfl ?_
    refine s_get (C1 := RX6) (T := TX6) (N := 26) (ci := 5) C 19 0 3 uX6 rfl rfl (Nat.le_of_ble_eq_true rfl) uu992 rfl rfl rfl dX6_on_16 ?_
    refine s_put (C1 := RX6) (T := TX6) (N := 26) (ci := 5) (ty := tyX6 0) (ws1 := (wM ad cI m_imageLeft m_bites m_many m_imageLeft m_imageBites m_imageMany m_wasLeft m_wasBites m_wasMany m_hasImage m_letterMany m_rowMany m_place m_seed m_kind m_figure m_imageKind m_imageFigure m_wasKind m_wasFigure m_letters m_row m_refused m_numbers m_counted m_few)) C 22 0 0 uX6 tyX6 tyX6_ok nmX6 rfl rfl (Nat.le_of_ble_eq_true rfl) uu986 rfl rfl (tyX6_ok 0 (Nat.le_of_ble_eq_true rfl)) ⟨rfl, rfl⟩ (Nat.le_of_ble_eq_true rfl) rfl rfl dX6_on_19 ?_
    refine s_aload_n C 23 0 rfl dX6_on_22 rfl ?_
    refine s_aload_n C 24 0 rfl dX6_on_23 rfl ?_
    refine s_get (C1 := RX6) (T := TX6) (N := 26) (ci := 5) C 27 0 4 uX6 rfl rfl (Nat.le_of_ble_eq_true rfl) uu994 rfl rfl rfl dX6_on_24 ?_
    refine s_put (C1 := RX6) (T := TX6) (N := 26) (ci := 5) (ty := tyX6 1) (ws1 := (wM ad cI m_imageLeft m_imageBites m_many m_imageLeft m_imageBites m_imageMany m_wasLeft m_wasBites m_wasMany m_hasImage m_letterMany m_rowMany m_place m_seed m_kind m_figure m_imageKind m_imageFigure m_wasKind m_wasFigure m_letters m_row m_refused m_numbers m_counted m_few)) C 30 0 1 uX6 tyX6 tyX6_ok nmX6 rfl rfl (Nat.le_of_ble_eq_true rfl) uu988 rfl rfl (tyX6_ok 1 (Nat.le_of_ble_eq_true rfl)) ⟨rfl, rfl⟩ (Nat.le_of_ble_eq_true rfl) rfl rfl dX6_on_27 ?_
    refine s_aload_n C 31 0 rfl dX6_on_30 rfl ?_
    refine s_aload_n C 32 0 rfl dX6_on_31 rfl ?_
    refine s_get (C1 := RX6) (T := TX6) (N := 26) (ci := 5) C 35 0 5 uX6 rfl rfl (Nat.le_of_ble_eq_true rfl) uu996 rfl rfl rfl dX6_on_32 ?_
    refine s_put (C1 := RX6) (T := TX6) (N := 26) (ci := 5) (ty := tyX6 2) (ws1 := (wM ad cI m_imageLeft m_imageBites m_imageMany m_imageLeft m_imageBites m_imageMany m_wasLeft m_wasBites m_wasMany m_hasImage m_letterMany m_rowMany m_place m_seed m_kind m_figure m_imageKind m_imageFigure m_wasKind m_wasFigure m_letters m_row m_refused m_numbers m_counted m_few)) C 38 0 2 uX6 tyX6 tyX6_ok nmX6 rfl rfl (Nat.le_of_ble_eq_true rfl) uu990 rfl rfl (tyX6_ok 2 (Nat.le_of_ble_eq_true rfl)) ⟨rfl, rfl⟩ (Nat.le_of_ble_eq_true rfl) rfl rfl dX6_on_35 ?_
    refine s_iconst C 39 rfl dX6_on_38 ic_0 ?_
    refine s_istore_n (lv1 := [(1, .int (0 : Int32)), (0, .ref (ad 0))]) C 40 1 rfl dX6_on_39 rfl (Nat.le_of_ble_eq_true rfl) rfl ?_
    refine s_lv (lv1 := [(0, .ref (ad 0)), (1, .int (0 : Int32))]) [1, 0] rfl ?_
    refine s_loop (α := Int32 × (Nat → Int32) × (Nat → Int32)) (fun n v6 => f_X6_on_40 m_imageLeft m_imageBites m_imageMany m_imageKind m_imageFigure m_refused n v6.1 v6.2.1 v6.2.2) 40 (fun v6 => [(0, .ref (ad 0)), (1, .int v6.1)]) (fun v6 => (wM ad cI m_imageLeft m_imageBites m_imageMany m_imageLeft m_imageBites m_imageMany m_wasLeft m_wasBites m_wasMany m_hasImage m_letterMany m_rowMany m_place m_seed v6.2.1 v6.2.2 m_imageKind m_imageFigure m_wasKind m_wasFigure m_letters m_row m_refused m_numbers m_counted m_few)) 1000 ((0 : Int32), m_kind, m_figure) hf (fun v6 hf => by simp only [f_X6_on_40] at hf; exact absurd hf (by simp)) (fun n ih7 v6 hf => ?_)
    replace hf := (f_X6_on_40_s _ _ _ _ _ _ _ _ _ _).symm.trans hf
    refine s_iload_n C 41 1 rfl dX6_on_40 rfl ?_
    refine s_iconst C 42 rfl dX6_on_41 ic_5 ?_
    refine s_icmp_ge C 75 45 rfl dX6_on_42 rfl (fun hc12 => ?_) (fun hc12 => ?_)
    · replace hf := ite_t hc12 hf
      refine s_aload_n C 76 0 rfl dX6_on_75 rfl ?_
      refine s_get (C1 := RX6) (T := TX6) (N := 26) (ci := 5) C 79 0 1 uX6 rfl rfl (Nat.le_of_ble_eq_true rfl) uu988 rfl rfl rfl dX6_on_76 ?_
      obtain rfl := Option.some.inj hf
      exact s_iret C (fun i => i) hr hlk rfl rfl dX6_on_79
    · replace hf := ite_f hc12 hf
      refine s_aload_n C 46 0 rfl dX6_on_45 rfl ?_
      refine s_get (C1 := RX6) (T := TX6) (N := 26) (ci := 5) C 49 0 9 uX6 rfl rfl (Nat.le_of_ble_eq_true rfl) uu1004 rfl rfl rfl dX6_on_46 ?_
      refine s_iload_n C 50 1 rfl dX6_on_49 rfl ?_
      refine s_aload_n C 51 0 rfl dX6_on_50 rfl ?_
      refine s_get (C1 := RX6) (T := TX6) (N := 26) (ci := 5) C 54 0 11 uX6 rfl rfl (Nat.le_of_ble_eq_true rfl) uu1008 rfl rfl rfl dX6_on_51 ?_
      refine s_iload_n C 55 1 rfl dX6_on_54 rfl ?_
      obtain ⟨h8, hf⟩ := ck_in hf
      refine s_iald C 56 3 rfl h8 rfl dX6_on_55 ?_
      obtain ⟨h9, hf⟩ := ck_in hf
      refine s_iast (ws1 := (wM ad cI m_imageLeft m_imageBites m_imageMany m_imageLeft m_imageBites m_imageMany m_wasLeft m_wasBites m_wasMany m_hasImage m_letterMany m_rowMany m_place m_seed (upd v6.2.1 v6.1.toNatClampNeg (m_imageKind v6.1.toNatClampNeg)) v6.2.2 m_imageKind m_imageFigure m_wasKind m_wasFigure m_letters m_row m_refused m_numbers m_counted m_few)) C 57 1 rfl h9 rfl rfl dX6_on_56 ?_
      refine s_aload_n C 58 0 rfl dX6_on_57 rfl ?_
      refine s_get (C1 := RX6) (T := TX6) (N := 26) (ci := 5) C 61 0 10 uX6 rfl rfl (Nat.le_of_ble_eq_true rfl) uu1006 rfl rfl rfl dX6_on_58 ?_
      refine s_iload_n C 62 1 rfl dX6_on_61 rfl ?_
      refine s_aload_n C 63 0 rfl dX6_on_62 rfl ?_
      refine s_get (C1 := RX6) (T := TX6) (N := 26) (ci := 5) C 66 0 12 uX6 rfl rfl (Nat.le_of_ble_eq_true rfl) uu1010 rfl rfl rfl dX6_on_63 ?_
      refine s_iload_n C 67 1 rfl dX6_on_66 rfl ?_
      obtain ⟨h10, hf⟩ := ck_in hf
      refine s_iald C 68 4 rfl h10 rfl dX6_on_67 ?_
      obtain ⟨h11, hf⟩ := ck_in hf
      refine s_iast (ws1 := (wM ad cI m_imageLeft m_imageBites m_imageMany m_imageLeft m_imageBites m_imageMany m_wasLeft m_wasBites m_wasMany m_hasImage m_letterMany m_rowMany m_place m_seed (upd v6.2.1 v6.1.toNatClampNeg (m_imageKind v6.1.toNatClampNeg)) (upd v6.2.2 v6.1.toNatClampNeg (m_imageFigure v6.1.toNatClampNeg)) m_imageKind m_imageFigure m_wasKind m_wasFigure m_letters m_row m_refused m_numbers m_counted m_few)) C 69 2 rfl h11 rfl rfl dX6_on_68 ?_
      refine s_iinc (lv1 := [(1, .int (v6.1 + (1 : Int32))), (0, .ref (ad 0))]) C 72 1 1 rfl dX6_on_69 rfl ic_1 (Nat.le_of_ble_eq_true rfl) rfl ?_
      refine s_goto C 40 dX6_on_72 rfl ?_
      exact s_lv [1, 0] rfl (ih7 ((v6.1 + (1 : Int32), upd v6.2.1 v6.1.toNatClampNeg (m_imageKind v6.1.toNatClampNeg), upd v6.2.2 v6.1.toNatClampNeg (m_imageFigure v6.1.toNatClampNeg)) : Int32 × (Nat → Int32) × (Nat → Int32)) hf)
  · replace hf := ite_t hc15 hf
    refine s_aload_n C 8 0 rfl dX6_on_7 rfl ?_
    refine s_bipush C 10 rfl dX6_on_8 bp_m3 ?_
    obtain ⟨r13, q14, hf⟩ := bn_s hf
    refine s_callW (T := TX6) (N := 26) (ci := 5) (q0 := 0) (rest := []) C 13 (c_X6_no l D cI adK adV ad m_left m_bites m_many m_imageLeft m_imageBites m_imageMany m_wasLeft m_wasBites m_wasMany m_hasImage m_letterMany m_rowMany m_place m_seed m_kind m_figure m_imageKind m_imageFigure m_wasKind m_wasFigure m_letters m_row m_refused m_numbers m_counted m_few (-3 : Int32) r13 q14) (gV uu1070 uu1072 uu1571 uu6 uu1073) hd_X6_no rfl ⟨rfl, rfl⟩ ⟨Nat.le_of_ble_eq_true rfl, Nat.le_of_ble_eq_true rfl⟩ ⟨Nat.le_of_ble_eq_true rfl, Nat.le_of_ble_eq_true rfl⟩ rfl rfl rfl (Nat.le_of_ble_eq_true rfl) rfl dX6_on_10 (fun _ => ?_)
    obtain rfl := Option.some.inj hf
    exact s_iret C (fun i => i) hr hlk rfl rfl dX6_on_13

theorem sw_out_X6_count_22 {x : Int32} (h0 : ¬ x = (0 : Int32)) (h1 : ¬ x = (1 : Int32)) (h2 : ¬ x = (2 : Int32)) (h3 : ¬ x = (3 : Int32)) (h4 : ¬ x = (4 : Int32)) (h5 : ¬ x = (5 : Int32)) (h6 : ¬ x = (6 : Int32)) (h7 : ¬ x = (7 : Int32)) : x.toInt < 0 ∨ 7 < x.toInt := by
  have e0 := ne_toInt h0
  rw [show ((0 : Int32) : Int32).toInt = 0 from by decide] at e0
  have e1 := ne_toInt h1
  rw [show ((1 : Int32) : Int32).toInt = 1 from by decide] at e1
  have e2 := ne_toInt h2
  rw [show ((2 : Int32) : Int32).toInt = 2 from by decide] at e2
  have e3 := ne_toInt h3
  rw [show ((3 : Int32) : Int32).toInt = 3 from by decide] at e3
  have e4 := ne_toInt h4
  rw [show ((4 : Int32) : Int32).toInt = 4 from by decide] at e4
  have e5 := ne_toInt h5
  rw [show ((5 : Int32) : Int32).toInt = 5 from by decide] at e5
  have e6 := ne_toInt h6
  rw [show ((6 : Int32) : Int32).toInt = 6 from by decide] at e6
  have e7 := ne_toInt h7
  rw [show ((7 : Int32) : Int32).toInt = 7 from by decide] at e7
  omega
theorem hd_X6_count : yX6_count.cls = RX6 ∧ yX6_count.cls ≠ "java/lang/invoke/MethodHandle" ∧ yX6_count.cls ≠ "java/lang/invoke/VarHandle" ∧ (parseMethodDescriptor yX6_count.desc).map (fun d => d.parameters.length) = some 1 := by decide +kernel
set_option maxHeartbeats 4000000 in
set_option maxRecDepth 100000 in
theorem c_X6_count (l : Launch) (D : va_G) (cI : ClassId) (adK adV : Nat → Nat) (ad : Nat → Nat) (m_left : Int32) (m_bites : Int32) (m_many : Int32) (m_imageLeft : Int32) (m_imageBites : Int32) (m_imageMany : Int32) (m_wasLeft : Int32) (m_wasBites : Int32) (m_wasMany : Int32) (m_hasImage : Int32) (m_letterMany : Int32) (m_rowMany : Int32) (m_place : Int32) (m_seed : Int32) (m_kind : (Nat → Int32)) (m_figure : (Nat → Int32)) (m_imageKind : (Nat → Int32)) (m_imageFigure : (Nat → Int32)) (m_wasKind : (Nat → Int32)) (m_wasFigure : (Nat → Int32)) (m_letters : (Nat → Int32)) (m_row : (Nat → Int32)) (m_refused : (Nat → Int32)) (m_numbers : (Nat → Int32)) (m_counted : (Nat → Int32)) (m_few : (Nat → Int32)) (a1 : Int32) (o : Int32) (hf : f_X6_count m_left m_bites m_many m_letterMany m_rowMany m_kind m_figure m_refused a1 = some o) : Ct l D cI adK adV yX6_count (wy yX6_count cX6_count 2 (some .int)) { frames := 6, cells := 0, slots := 0, locals := 140 } 0 0 [.ref (ad 0), .int a1] (wM ad cI m_left m_bites m_many m_imageLeft m_imageBites m_imageMany m_wasLeft m_wasBites m_wasMany m_hasImage m_letterMany m_rowMany m_place m_seed m_kind m_figure m_imageKind m_imageFigure m_wasKind m_wasFigure m_letters m_row m_refused m_numbers m_counted m_few) (fun _ => (wM ad cI m_left m_bites m_many m_imageLeft m_imageBites m_imageMany m_wasLeft m_wasBites m_wasMany m_hasImage m_letterMany m_rowMany m_place m_seed m_kind m_figure m_imageKind m_imageFigure m_wasKind m_wasFigure m_letters m_row m_refused m_numbers m_counted m_few)) (some (.int o)) := by
  refine Ct.of (cc := cX6_count) (nL := 2) (ret := (some .int)) (own := RX6) (by decide) (Nat.le_of_ble_eq_true rfl) rfl ?_
  intro p e s m args below meth c A C hr hlk hnm
  refine s_lv (lv1 := [(0, .ref (ad 0)), (1, .int a1)]) [0, 1] rfl ?_
  unfold f_X6_count at hf
  refine s_iload_n C 1 1 rfl dX6_count_0 rfl ?_
  refine s_bipush C 3 rfl dX6_count_1 bp_11 ?_
  refine s_bipush C 5 rfl dX6_count_3 bp_16 ?_
  obtain ⟨r1, q2, hf⟩ := bn_s hf
  refine s_callS0 (host := "") (rest := []) C 8 (c_X6_isIn l D cI adK adV a1 (11 : Int32) (16 : Int32) r1 q2) (gS uu1106 uu1108 uu6 uu1109) hd_X6_isIn rfl ⟨rfl, rfl⟩ ⟨Nat.le_of_ble_eq_true rfl, Nat.le_of_ble_eq_true rfl⟩ ⟨Nat.le_of_ble_eq_true rfl, Nat.le_of_ble_eq_true rfl⟩ rfl (Nat.le_of_ble_eq_true rfl) rfl dX6_count_5 ?_
  refine s_if_eq C 21 11 rfl dX6_count_8 rfl (fun hc21 => ?_) (fun hc21 => ?_)
  · replace hf := ite_t hc21 hf
    refine s_iload_n C 22 1 rfl dX6_count_21 rfl ?_
    by_cases hc3 : a1 = (0 : Int32)
    · replace hf := ite_t hc3 hf
      refine s_tableIn (off := 46) C 68 dX6_count_22 (by rw [hc3]; decide) (by rw [hc3]; decide) (by rw [hc3]; rfl) rfl ?_
      refine s_aload_n C 69 0 rfl dX6_count_68 rfl ?_
      refine s_get (C1 := RX6) (T := TX6) (N := 26) (ci := 5) C 72 0 2 uX6 rfl rfl (Nat.le_of_ble_eq_true rfl) uu990 rfl rfl rfl dX6_count_69 ?_
      obtain rfl := Option.some.inj hf
      exact s_iret C (fun i => i) hr hlk rfl rfl dX6_count_72
    · replace hf := ite_f hc3 hf
      by_cases hc4 : a1 = (1 : Int32)
      · replace hf := ite_t hc4 hf
        refine s_tableIn (off := 51) C 73 dX6_count_22 (by rw [hc4]; decide) (by rw [hc4]; decide) (by rw [hc4]; rfl) rfl ?_
        refine s_aload_n C 74 0 rfl dX6_count_73 rfl ?_
        refine s_get (C1 := RX6) (T := TX6) (N := 26) (ci := 5) C 77 0 1 uX6 rfl rfl (Nat.le_of_ble_eq_true rfl) uu988 rfl rfl rfl dX6_count_74 ?_
        obtain rfl := Option.some.inj hf
        exact s_iret C (fun i => i) hr hlk rfl rfl dX6_count_77
      · replace hf := ite_f hc4 hf
        by_cases hc5 : a1 = (2 : Int32)
        · replace hf := ite_t hc5 hf
          refine s_tableIn (off := 56) C 78 dX6_count_22 (by rw [hc5]; decide) (by rw [hc5]; decide) (by rw [hc5]; rfl) rfl ?_
          refine s_aload_n C 79 0 rfl dX6_count_78 rfl ?_
          refine s_get (C1 := RX6) (T := TX6) (N := 26) (ci := 5) C 82 0 0 uX6 rfl rfl (Nat.le_of_ble_eq_true rfl) uu986 rfl rfl rfl dX6_count_79 ?_
          obtain rfl := Option.some.inj hf
          exact s_iret C (fun i => i) hr hlk rfl rfl dX6_count_82
        · replace hf := ite_f hc5 hf
          by_cases hc8 : a1 = (3 : Int32)
          · replace hf := ite_t hc8 hf
            refine s_tableIn (off := 61) C 83 dX6_count_22 (by rw [hc8]; decide) (by rw [hc8]; decide) (by rw [hc8]; rfl) rfl ?_
            refine s_aload_n C 84 0 rfl dX6_count_83 rfl ?_
            refine s_get (C1 := RX6) (T := TX6) (N := 26) (ci := 5) C 87 0 0 uX6 rfl rfl (Nat.le_of_ble_eq_true rfl) uu986 rfl rfl rfl dX6_count_84 ?_
            obtain ⟨r6, q7, hf⟩ := bn_s hf
            refine s_callS0 (host := "") (rest := []) C 90 (c_X6_bits l D cI adK adV m_left r6 q7) (gS uu1177 uu1179 uu6 uu1180) hd_X6_bits rfl ⟨rfl, rfl⟩ ⟨Nat.le_of_ble_eq_true rfl, Nat.le_of_ble_eq_true rfl⟩ ⟨Nat.le_of_ble_eq_true rfl, Nat.le_of_ble_eq_true rfl⟩ rfl (Nat.le_of_ble_eq_true rfl) rfl dX6_count_87 ?_
            obtain rfl := Option.some.inj hf
            exact s_iret C (fun i => i) hr hlk rfl rfl dX6_count_90
          · replace hf := ite_f hc8 hf
            by_cases hc11 : a1 = (4 : Int32)
            · replace hf := ite_t hc11 hf
              refine s_tableIn (off := 69) C 91 dX6_count_22 (by rw [hc11]; decide) (by rw [hc11]; decide) (by rw [hc11]; rfl) rfl ?_
              refine s_aload_n C 92 0 rfl dX6_count_91 rfl ?_
              refine s_aload_n C 93 0 rfl dX6_count_92 rfl ?_
              refine s_get (C1 := RX6) (T := TX6) (N := 26) (ci := 5) C 96 0 0 uX6 rfl rfl (Nat.le_of_ble_eq_true rfl) uu986 rfl rfl rfl dX6_count_93 ?_
              obtain ⟨r9, q10, hf⟩ := bn_s hf
              refine s_callW (T := TX6) (N := 26) (ci := 5) (q0 := 0) (rest := []) C 99 (c_X6_sharesOf l D cI adK adV ad m_left m_bites m_many m_imageLeft m_imageBites m_imageMany m_wasLeft m_wasBites m_wasMany m_hasImage m_letterMany m_rowMany m_place m_seed m_kind m_figure m_imageKind m_imageFigure m_wasKind m_wasFigure m_letters m_row m_refused m_numbers m_counted m_few m_left r9 q10) (gV uu1274 uu1276 uu1583 uu6 uu1277) hd_X6_sharesOf rfl ⟨rfl, rfl⟩ ⟨Nat.le_of_ble_eq_true rfl, Nat.le_of_ble_eq_true rfl⟩ ⟨Nat.le_of_ble_eq_true rfl, Nat.le_of_ble_eq_true rfl⟩ rfl rfl rfl (Nat.le_of_ble_eq_true rfl) rfl dX6_count_96 (fun _ => ?_)
              obtain rfl := Option.some.inj hf
              exact s_iret C (fun i => i) hr hlk rfl rfl dX6_count_99
            · replace hf := ite_f hc11 hf
              by_cases hc15 : a1 = (5 : Int32)
              · replace hf := ite_t hc15 hf
                refine s_tableIn (off := 78) C 100 dX6_count_22 (by rw [hc15]; decide) (by rw [hc15]; decide) (by rw [hc15]; rfl) rfl ?_
                refine s_aload_n C 101 0 rfl dX6_count_100 rfl ?_
                refine s_get (C1 := RX6) (T := TX6) (N := 26) (ci := 5) C 104 0 0 uX6 rfl rfl (Nat.le_of_ble_eq_true rfl) uu986 rfl rfl rfl dX6_count_101 ?_
                obtain ⟨r12, q13, hf⟩ := bn_s hf
                refine s_callS0 (host := "") (rest := []) C 107 (c_X6_deed l D cI adK adV m_left r12 q13) (gS uu1208 uu1210 uu6 uu1211) hd_X6_deed rfl ⟨rfl, rfl⟩ ⟨Nat.le_of_ble_eq_true rfl, Nat.le_of_ble_eq_true rfl⟩ ⟨Nat.le_of_ble_eq_true rfl, Nat.le_of_ble_eq_true rfl⟩ rfl (Nat.le_of_ble_eq_true rfl) rfl dX6_count_104 ?_
                refine s_if_ne C 114 110 rfl dX6_count_107 rfl (fun hc14 => ?_) (fun hc14 => ?_)
                · replace hf := ite_f hc14 hf
                  refine s_iconst C 115 rfl dX6_count_114 ic_0 ?_
                  obtain rfl := Option.some.inj hf
                  exact s_iret C (fun i => i) hr hlk rfl rfl dX6_count_115
                · replace hf := ite_t hc14 hf
                  refine s_iconst C 111 rfl dX6_count_110 ic_1 ?_
                  refine s_goto C 115 dX6_count_111 rfl ?_
                  obtain rfl := Option.some.inj hf
                  exact s_iret C (fun i => i) hr hlk rfl rfl dX6_count_115
              · replace hf := ite_f hc15 hf
                by_cases hc16 : a1 = (6 : Int32)
                · replace hf := ite_t hc16 hf
                  refine s_tableIn (off := 94) C 116 dX6_count_22 (by rw [hc16]; decide) (by rw [hc16]; decide) (by rw [hc16]; rfl) rfl ?_
                  refine s_aload_n C 117 0 rfl dX6_count_116 rfl ?_
                  refine s_get (C1 := RX6) (T := TX6) (N := 26) (ci := 5) C 120 0 20 uX6 rfl rfl (Nat.le_of_ble_eq_true rfl) uu1026 rfl rfl rfl dX6_count_117 ?_
                  obtain rfl := Option.some.inj hf
                  exact s_iret C (fun i => i) hr hlk rfl rfl dX6_count_120
                · replace hf := ite_f hc16 hf
                  by_cases hc17 : a1 = (7 : Int32)
                  · replace hf := ite_t hc17 hf
                    refine s_tableIn (off := 99) C 121 dX6_count_22 (by rw [hc17]; decide) (by rw [hc17]; decide) (by rw [hc17]; rfl) rfl ?_
                    refine s_aload_n C 122 0 rfl dX6_count_121 rfl ?_
                    refine s_get (C1 := RX6) (T := TX6) (N := 26) (ci := 5) C 125 0 19 uX6 rfl rfl (Nat.le_of_ble_eq_true rfl) uu1024 rfl rfl rfl dX6_count_122 ?_
                    obtain rfl := Option.some.inj hf
                    exact s_iret C (fun i => i) hr hlk rfl rfl dX6_count_125
                  · replace hf := ite_f hc17 hf
                    refine s_tableOut C 126 dX6_count_22 (sw_out_X6_count_22 hc3 hc4 hc5 hc8 hc11 hc15 hc16 hc17) rfl ?_
                    refine s_bipush C 128 rfl dX6_count_126 bp_m9 ?_
                    obtain rfl := Option.some.inj hf
                    exact s_iret C (fun i => i) hr hlk rfl rfl dX6_count_128
  · replace hf := ite_f hc21 hf
    refine s_aload_n C 12 0 rfl dX6_count_11 rfl ?_
    refine s_get (C1 := RX6) (T := TX6) (N := 26) (ci := 5) C 15 0 18 uX6 rfl rfl (Nat.le_of_ble_eq_true rfl) uu1022 rfl rfl rfl dX6_count_12 ?_
    refine s_iload_n C 16 1 rfl dX6_count_15 rfl ?_
    refine s_bipush C 18 rfl dX6_count_16 bp_10 ?_
    refine s_isub C 19 rfl dX6_count_18 ?_
    obtain ⟨h20, hf⟩ := ck_in hf
    refine s_iald C 20 9 rfl h20 rfl dX6_count_19 ?_
    obtain rfl := Option.some.inj hf
    exact s_iret C (fun i => i) hr hlk rfl rfl dX6_count_20

