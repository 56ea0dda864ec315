
theorem hd_X6_no : yX6_no.cls = RX6 ∧ yX6_no.cls ≠ "java/lang/invoke/MethodHandle" ∧ yX6_no.cls ≠ "java/lang/invoke/VarHandle" ∧ (parseMethodDescriptor yX6_no.desc).map (fun d => d.parameters.length) = some 1 := by decide +kernel
set_option maxHeartbeats 4000000 in
set_option maxRecDepth 100000 in
theorem c_X6_no (l : Launch) (D : va_G) (cI : ClassId) (adK adV : Nat → Nat) (ad : Nat → Nat) (m_left : Int32) (m_bites : Int32) (m_many : Int32) (m_imageLeft : Int32) (m_imageBites : Int32) (m_imageMany : Int32) (m_wasLeft : Int32) (m_wasBites : Int32) (m_wasMany : Int32) (m_hasImage : Int32) (m_letterMany : Int32) (m_rowMany : Int32) (m_place : Int32) (m_seed : Int32) (m_kind : (Nat → Int32)) (m_figure : (Nat → Int32)) (m_imageKind : (Nat → Int32)) (m_imageFigure : (Nat → Int32)) (m_wasKind : (Nat → Int32)) (m_wasFigure : (Nat → Int32)) (m_letters : (Nat → Int32)) (m_row : (Nat → Int32)) (m_refused : (Nat → Int32)) (m_numbers : (Nat → Int32)) (m_counted : (Nat → Int32)) (m_few : (Nat → Int32)) (a1 : Int32) (o : Int32 × (Nat → Int32)) (hf : f_X6_no m_refused a1 = some o) : Ct l D cI adK adV yX6_no (wy yX6_no cX6_no 2 (some .int)) { frames := 0, cells := 0, slots := 0, locals := 0 } 0 0 [.ref (ad 0), .int a1] (wM ad cI m_left m_bites m_many m_imageLeft m_imageBites m_imageMany m_wasLeft m_wasBites m_wasMany m_hasImage m_letterMany m_rowMany m_place m_seed m_kind m_figure m_imageKind m_imageFigure m_wasKind m_wasFigure m_letters m_row m_refused m_numbers m_counted m_few) (fun _ => (wM ad cI m_left m_bites m_many m_imageLeft m_imageBites m_imageMany m_wasLeft m_wasBites m_wasMany m_hasImage m_letterMany m_rowMany m_place m_seed m_kind m_figure m_imageKind m_imageFigure m_wasKind m_wasFigure m_letters m_row o.2 m_numbers m_counted m_few)) (some (.int o.1)) := by
  refine Ct.of (cc := cX6_no) (nL := 2) (ret := (some .int)) (own := RX6) (by decide) (Nat.le_of_ble_eq_true rfl) rfl ?_
  intro p e s m args below meth c A C hr hlk hnm
  refine s_lv (lv1 := [(0, .ref (ad 0)), (1, .int a1)]) [0, 1] rfl ?_
  unfold f_X6_no at hf
  refine s_aload_n C 1 0 rfl dX6_no_0 rfl ?_
  refine s_get (C1 := RX6) (T := TX6) (N := 26) (ci := 5) C 4 0 18 uX6 rfl rfl (Nat.le_of_ble_eq_true rfl) uu1022 rfl rfl rfl dX6_no_1 ?_
  refine s_iload_n C 5 1 rfl dX6_no_4 rfl ?_
  refine s_ineg C 6 rfl dX6_no_5 ?_
  refine s_dup2 C 7 rfl dX6_no_6 rfl rfl ?_
  obtain ⟨h1, hf⟩ := ck_in hf
  refine s_iald C 8 9 rfl h1 rfl dX6_no_7 ?_
  refine s_iconst C 9 rfl dX6_no_8 ic_1 ?_
  refine s_iadd C 10 rfl dX6_no_9 ?_
  obtain ⟨h2, hf⟩ := ck_in hf
  refine s_iast (ws1 := (wM ad cI m_left m_bites m_many m_imageLeft m_imageBites m_imageMany m_wasLeft m_wasBites m_wasMany m_hasImage m_letterMany m_rowMany m_place m_seed m_kind m_figure m_imageKind m_imageFigure m_wasKind m_wasFigure m_letters m_row (upd m_refused (-a1).toNatClampNeg ((m_refused (-a1).toNatClampNeg) + (1 : Int32))) m_numbers m_counted m_few)) C 11 9 rfl h2 rfl rfl dX6_no_10 ?_
  refine s_iload_n C 12 1 rfl dX6_no_11 rfl ?_
  obtain rfl := Option.some.inj hf
  exact s_iret C (fun i => i) hr hlk rfl rfl dX6_no_12


theorem hd_X6_noFar : yX6_noFar.cls = RX6 ∧ yX6_noFar.cls ≠ "java/lang/invoke/MethodHandle" ∧ yX6_noFar.cls ≠ "java/lang/invoke/VarHandle" ∧ (parseMethodDescriptor yX6_noFar.desc).map (fun d => d.parameters.length) = some 1 := by decide +kernel
set_option maxHeartbeats 4000000 in
set_option maxRecDepth 100000 in
theorem c_X6_noFar (l : Launch) (D : va_G) (cI : ClassId) (adK adV : Nat → Nat) (ad : Nat → Nat) (m_left : Int32) (m_bites : Int32) (m_many : Int32) (m_imageLeft : Int32) (m_imageBites : Int32) (m_imageMany : Int32) (m_wasLeft : Int32) (m_wasBites : Int32) (m_wasMany : Int32) (m_hasImage : Int32) (m_letterMany : Int32) (m_rowMany : Int32) (m_place : Int32) (m_seed : Int32) (m_kind : (Nat → Int32)) (m_figure : (Nat → Int32)) (m_imageKind : (Nat → Int32)) (m_imageFigure : (Nat → Int32)) (m_wasKind : (Nat → Int32)) (m_wasFigure : (Nat → Int32)) (m_letters : (Nat → Int32)) (m_row : (Nat → Int32)) (m_refused : (Nat → Int32)) (m_numbers : (Nat → Int32)) (m_counted : (Nat → Int32)) (m_few : (Nat → Int32)) (a1 : Int32) (o : Int32 × (Nat → Int32)) (hf : f_X6_noFar m_refused a1 = some o) : Ct l D cI adK adV yX6_noFar (wy yX6_noFar cX6_noFar 2 (some .int)) { frames := 1, cells := 0, slots := 0, locals := 21 } 0 0 [.ref (ad 0), .int a1] (wM ad cI m_left m_bites m_many m_imageLeft m_imageBites m_imageMany m_wasLeft m_wasBites m_wasMany m_hasImage m_letterMany m_rowMany m_place m_seed m_kind m_figure m_imageKind m_imageFigure m_wasKind m_wasFigure m_letters m_row m_refused m_numbers m_counted m_few) (fun _ => (wM ad cI m_left m_bites m_many m_imageLeft m_imageBites m_imageMany m_wasLeft m_wasBites m_wasMany m_hasImage m_letterMany m_rowMany m_place m_seed m_kind m_figure m_imageKind m_imageFigure m_wasKind m_wasFigure m_letters m_row o.2 m_numbers m_counted m_few)) (some (.int o.1)) := by
  refine Ct.of (cc := cX6_noFar) (nL := 2) (ret := (some .int)) (own := RX6) (by decide) (Nat.le_of_ble_eq_true rfl) rfl ?_
  intro p e s m args below meth c A C hr hlk hnm
  refine s_lv (lv1 := [(0, .ref (ad 0)), (1, .int a1)]) [0, 1] rfl ?_
  unfold f_X6_noFar at hf
  refine s_ldc C 2 rfl dX6_noFar_0 uu1362 ?_
  refine s_aload_n C 3 0 rfl dX6_noFar_2 rfl ?_
  refine s_iload_n C 4 1 rfl dX6_noFar_3 rfl ?_
  obtain ⟨r1, q2, hf⟩ := bn_s hf
  refine s_callW (T := TX6) (N := 26) (ci := 5) (q0 := 0) (rest := [.int (1000000000 : Int32)]) C 7 (c_X6_no l D cI adK adV ad m_left m_bites m_many m_imageLeft m_imageBites m_imageMany m_wasLeft m_wasBites m_wasMany m_hasImage m_letterMany m_rowMany m_place m_seed m_kind m_figure m_imageKind m_imageFigure m_wasKind m_wasFigure m_letters m_row m_refused m_numbers m_counted m_few a1 r1 q2) (gV uu1070 uu1072 uu1571 uu6 uu1073) hd_X6_no rfl ⟨rfl, rfl⟩ ⟨Nat.le_of_ble_eq_true rfl, Nat.le_of_ble_eq_true rfl⟩ ⟨Nat.le_of_ble_eq_true rfl, Nat.le_of_ble_eq_true rfl⟩ rfl rfl rfl (Nat.le_of_ble_eq_true rfl) rfl dX6_noFar_4 (fun _ => ?_)
  refine s_isub C 8 rfl dX6_noFar_7 ?_
  obtain rfl := Option.some.inj hf
  exact s_iret C (fun i => i) hr hlk rfl rfl dX6_noFar_8


theorem hd_X6_noWide : yX6_noWide.cls = RX6 ∧ yX6_noWide.cls ≠ "java/lang/invoke/MethodHandle" ∧ yX6_noWide.cls ≠ "java/lang/invoke/VarHandle" ∧ (parseMethodDescriptor yX6_noWide.desc).map (fun d => d.parameters.length) = some 1 := by decide +kernel
set_option maxHeartbeats 4000000 in
set_option maxRecDepth 100000 in
theorem c_X6_noWide (l : Launch) (D : va_G) (cI : ClassId) (adK adV : Nat → Nat) (ad : Nat → Nat) (m_left : Int32) (m_bites : Int32) (m_many : Int32) (m_imageLeft : Int32) (m_imageBites : Int32) (m_imageMany : Int32) (m_wasLeft : Int32) (m_wasBites : Int32) (m_wasMany : Int32) (m_hasImage : Int32) (m_letterMany : Int32) (m_rowMany : Int32) (m_place : Int32) (m_seed : Int32) (m_kind : (Nat → Int32)) (m_figure : (Nat → Int32)) (m_imageKind : (Nat → Int32)) (m_imageFigure : (Nat → Int32)) (m_wasKind : (Nat → Int32)) (m_wasFigure : (Nat → Int32)) (m_letters : (Nat → Int32)) (m_row : (Nat → Int32)) (m_refused : (Nat → Int32)) (m_numbers : (Nat → Int32)) (m_counted : (Nat → Int32)) (m_few : (Nat → Int32)) (a1 : Int32) (o : Int64 × (Nat → Int32)) (hf : f_X6_noWide m_refused a1 = some o) : Ct l D cI adK adV yX6_noWide (wy yX6_noWide cX6_noWide 2 (some .long)) { frames := 1, cells := 0, slots := 0, locals := 21 } 0 0 [.ref (ad 0), .int a1] (wM ad cI m_left m_bites m_many m_imageLeft m_imageBites m_imageMany m_wasLeft m_wasBites m_wasMany m_hasImage m_letterMany m_rowMany m_place m_seed m_kind m_figure m_imageKind m_imageFigure m_wasKind m_wasFigure m_letters m_row m_refused m_numbers m_counted m_few) (fun _ => (wM ad cI m_left m_bites m_many m_imageLeft m_imageBites m_imageMany m_wasLeft m_wasBites m_wasMany m_hasImage m_letterMany m_rowMany m_place m_seed m_kind m_figure m_imageKind m_imageFigure m_wasKind m_wasFigure m_letters m_row o.2 m_numbers m_counted m_few)) (some (.long o.1)) := by
  refine Ct.of (cc := cX6_noWide) (nL := 2) (ret := (some .long)) (own := RX6) (by decide) (Nat.le_of_ble_eq_true rfl) rfl ?_
  intro p e s m args below meth c A C hr hlk hnm
  refine s_lv (lv1 := [(0, .ref (ad 0)), (1, .int a1)]) [0, 1] rfl ?_
  unfold f_X6_noWide at hf
  refine s_ldc2_w C 3 rfl dX6_noWide_0 uu1455 ?_
  refine s_aload_n C 4 0 rfl dX6_noWide_3 rfl ?_
  refine s_iload_n C 5 1 rfl dX6_noWide_4 rfl ?_
  obtain ⟨r1, q2, hf⟩ := bn_s hf
  refine s_callW (T := TX6) (N := 26) (ci := 5) (q0 := 0) (rest := [.long (4000000000000000000 : Int64)]) C 8 (c_X6_no l D cI adK adV ad m_left m_bites m_many m_imageLeft m_imageBites m_imageMany m_wasLeft m_wasBites m_wasMany m_hasImage m_letterMany m_rowMany m_place m_seed m_kind m_figure m_imageKind m_imageFigure m_wasKind m_wasFigure m_letters m_row m_refused m_numbers m_counted m_few a1 r1 q2) (gV uu1070 uu1072 uu1571 uu6 uu1073) hd_X6_no rfl ⟨rfl, rfl⟩ ⟨Nat.le_of_ble_eq_true rfl, Nat.le_of_ble_eq_true rfl⟩ ⟨Nat.le_of_ble_eq_true rfl, Nat.le_of_ble_eq_true rfl⟩ rfl rfl rfl (Nat.le_of_ble_eq_true rfl) rfl dX6_noWide_5 (fun _ => ?_)
  refine s_i2l C 9 rfl dX6_noWide_8 ?_
  refine s_lsub C 10 rfl dX6_noWide_9 ?_
  obtain rfl := Option.some.inj hf
  exact s_lret C (fun i => i) hr hlk rfl rfl dX6_noWide_10


theorem hd_X6_isHeir : yX6_isHeir.cls = RX6 ∧ yX6_isHeir.cls ≠ "java/lang/invoke/MethodHandle" ∧ yX6_isHeir.cls ≠ "java/lang/invoke/VarHandle" ∧ (parseMethodDescriptor yX6_isHeir.desc).map (fun d => d.parameters.length) = some 1 := by decide +kernel
set_option maxHeartbeats 4000000 in
set_option maxRecDepth 100000 in
theorem c_X6_isHeir (l : Launch) (D : va_G) (cI : ClassId) (adK adV : Nat → Nat) (ad : Nat → Nat) (m_left : Int32) (m_bites : Int32) (m_many : Int32) (m_imageLeft : Int32) (m_imageBites : Int32) (m_imageMany : Int32) (m_wasLeft : Int32) (m_wasBites : Int32) (m_wasMany : Int32) (m_hasImage : Int32) (m_letterMany : Int32) (m_rowMany : Int32) (m_place : Int32) (m_seed : Int32) (m_kind : (Nat → Int32)) (m_figure : (Nat → Int32)) (m_imageKind : (Nat → Int32)) (m_imageFigure : (Nat → Int32)) (m_wasKind : (Nat → Int32)) (m_wasFigure : (Nat → Int32)) (m_letters : (Nat → Int32)) (m_row : (Nat → Int32)) (m_refused : (Nat → Int32)) (m_numbers : (Nat → Int32)) (m_counted : (Nat → Int32)) (m_few : (Nat → Int32)) (a1 : Int32) (o : Int32) (hf : f_X6_isHeir m_many a1 = some o) : Ct l D cI adK adV yX6_isHeir (wy yX6_isHeir cX6_isHeir 2 (some .boolean)) { frames := 1, cells := 0, slots := 0, locals := 22 } 0 0 [.ref (ad 0), .int a1] (wM ad cI m_left m_bites m_many m_imageLeft m_imageBites m_imageMany m_wasLeft m_wasBites m_wasMany m_hasImage m_letterMany m_rowMany m_place m_seed m_kind m_figure m_imageKind m_imageFigure m_wasKind m_wasFigure m_letters m_row m_refused m_numbers m_counted m_few) (fun _ => (wM ad cI m_left m_bites m_many m_imageLeft m_imageBites m_imageMany m_wasLeft m_wasBites m_wasMany m_hasImage m_letterMany m_rowMany m_place m_seed m_kind m_figure m_imageKind m_imageFigure m_wasKind m_wasFigure m_letters m_row m_refused m_numbers m_counted m_few)) (some (.int o)) := by
  refine Ct.of (cc := cX6_isHeir) (nL := 2) (ret := (some .boolean)) (own := RX6) (by decide) (Nat.le_of_ble_eq_true rfl) rfl ?_
  intro p e s m args below meth c A C hr hlk hnm
  refine s_lv (lv1 := [(0, .ref (ad 0)), (1, .int a1)]) [0, 1] rfl ?_
  unfold f_X6_isHeir at hf
  refine s_iload_n C 1 1 rfl dX6_isHeir_0 rfl ?_
  refine s_iconst C 2 rfl dX6_isHeir_1 ic_0 ?_
  refine s_aload_n C 3 0 rfl dX6_isHeir_2 rfl ?_
  refine s_get (C1 := RX6) (T := TX6) (N := 26) (ci := 5) C 6 0 2 uX6 rfl rfl (Nat.le_of_ble_eq_true rfl) uu990 rfl rfl rfl dX6_isHeir_3 ?_
  refine s_iconst C 7 rfl dX6_isHeir_6 ic_1 ?_
  refine s_isub C 8 rfl dX6_isHeir_7 ?_
  obtain ⟨r1, q2, hf⟩ := bn_s hf
  refine s_callS0 (host := "") (rest := []) C 11 (c_X6_isIn l D cI adK adV a1 (0 : Int32) (m_many - (1 : Int32)) r1 q2) (gS uu1106 uu1108 uu6 uu1109) hd_X6_isIn rfl ⟨rfl, rfl⟩ ⟨Nat.le_of_ble_eq_true rfl, Nat.le_of_ble_eq_true rfl⟩ ⟨Nat.le_of_ble_eq_true rfl, Nat.le_of_ble_eq_true rfl⟩ rfl (Nat.le_of_ble_eq_true rfl) rfl dX6_isHeir_8 ?_
  obtain ⟨h3, hf⟩ := ck_isb hf
  obtain rfl := Option.some.inj hf
  exact s_zret C (fun i => i) hr hlk h3 rfl rfl dX6_isHeir_11


theorem hd_X6_shareOf : yX6_shareOf.cls = RX6 ∧ yX6_shareOf.cls ≠ "java/lang/invoke/MethodHandle" ∧ yX6_shareOf.cls ≠ "java/lang/invoke/VarHandle" ∧ (parseMethodDescriptor yX6_shareOf.desc).map (fun d => d.parameters.length) = some 2 := by decide +kernel
set_option maxHeartbeats 4000000 in
set_option maxRecDepth 100000 in
theorem c_X6_shareOf (l : Launch) (D : va_G) (cI : ClassId) (adK adV : Nat → Nat) (ad : Nat → Nat) (m_left : Int32) (m_bites : Int32) (m_many : Int32) (m_imageLeft : Int32) (m_imageBites : Int32) (m_imageMany : Int32) (m_wasLeft : Int32) (m_wasBites : Int32) (m_wasMany : Int32) (m_hasImage : Int32) (m_letterMany : Int32) (m_rowMany : Int32) (m_place : Int32) (m_seed : Int32) (m_kind : (Nat → Int32)) (m_figure : (Nat → Int32)) (m_imageKind : (Nat → Int32)) (m_imageFigure : (Nat → Int32)) (m_wasKind : (Nat → Int32)) (m_wasFigure : (Nat → Int32)) (m_letters : (Nat → Int32)) (m_row : (Nat → Int32)) (m_refused : (Nat → Int32)) (m_numbers : (Nat → Int32)) (m_counted : (Nat → Int32)) (m_few : (Nat → Int32)) (a1 : Int32) (a2 : Int32) (o : Int32) (hf : f_X6_shareOf m_kind m_figure a1 a2 = some o) : Ct l D cI adK adV yX6_shareOf (wy yX6_shareOf cX6_shareOf 3 (some .int)) { frames := 4, cells := 0, slots := 0, locals := 95 } 0 0 [.ref (ad 0), .int a1, .int a2] (wM ad cI m_left m_bites m_many m_imageLeft m_imageBites m_imageMany m_wasLeft m_wasBites m_wasMany m_hasImage m_letterMany m_rowMany m_place m_seed m_kind m_figure m_imageKind m_imageFigure m_wasKind m_wasFigure m_letters m_row m_refused m_numbers m_counted m_few) (fun _ => (wM ad cI m_left m_bites m_many m_imageLeft m_imageBites m_imageMany m_wasLeft m_wasBites m_wasMany m_hasImage m_letterMany m_rowMany m_place m_seed m_kind m_figure m_imageKind m_imageFigure m_wasKind m_wasFigure m_letters m_row m_refused m_numbers m_counted m_few)) (some (.int o)) := by
  refine Ct.of (cc := cX6_shareOf) (nL := 3) (ret := (some .int)) (own := RX6) (by decide) (Nat.le_of_ble_eq_true rfl) rfl ?_
  intro p e s m args below meth c A C hr hlk hnm
  refine s_lv (lv1 := [(0, .ref (ad 0)), (1, .int a1), (2, .int a2)]) [0, 1, 2] rfl ?_
  unfold f_X6_shareOf at hf
  refine s_iload_n C 1 1 rfl dX6_shareOf_0 rfl ?_
  refine s_aload_n C 2 0 rfl dX6_shareOf_1 rfl ?_
  refine s_get (C1 := RX6) (T := TX6) (N := 26) (ci := 5) C 5 0 9 uX6 rfl rfl (Nat.le_of_ble_eq_true rfl) uu1004 rfl rfl rfl dX6_shareOf_2 ?_
  refine s_iload_n C 6 2 rfl dX6_shareOf_5 rfl ?_
  obtain ⟨h1, hf⟩ := ck_in hf
  refine s_iald C 7 1 rfl h1 rfl dX6_shareOf_6 ?_
  refine s_aload_n C 8 0 rfl dX6_shareOf_7 rfl ?_
  refine s_get (C1 := RX6) (T := TX6) (N := 26) (ci := 5) C 11 0 10 uX6 rfl rfl (Nat.le_of_ble_eq_true rfl) uu1006 rfl rfl rfl dX6_shareOf_8 ?_
  refine s_iload_n C 12 2 rfl dX6_shareOf_11 rfl ?_
  obtain ⟨h2, hf⟩ := ck_in hf
  refine s_iald C 13 2 rfl h2 rfl dX6_shareOf_12 ?_
  obtain ⟨r3, q4, hf⟩ := bn_s hf
  refine s_callS0 (host := "") (rest := []) C 16 (c_X6_shareBy l D cI adK adV a1 (m_kind a2.toNatClampNeg) (m_figure a2.toNatClampNeg) r3 q4) (gS uu1203 uu1205 uu6 uu1206) hd_X6_shareBy rfl ⟨rfl, rfl⟩ ⟨Nat.le_of_ble_eq_true rfl, Nat.le_of_ble_eq_true rfl⟩ ⟨Nat.le_of_ble_eq_true rfl, Nat.le_of_ble_eq_true rfl⟩ rfl (Nat.le_of_ble_eq_true rfl) rfl dX6_shareOf_13 ?_
  obtain rfl := Option.some.inj hf
  exact s_iret C (fun i => i) hr hlk rfl rfl dX6_shareOf_16


theorem hd_X6_sharesOf : yX6_sharesOf.cls = RX6 ∧ yX6_sharesOf.cls ≠ "java/lang/invoke/MethodHandle" ∧ yX6_sharesOf.cls ≠ "java/lang/invoke/VarHandle" ∧ (parseMethodDescriptor yX6_sharesOf.desc).map (fun d => d.parameters.length) = some 1 := by decide +kernel
set_option maxHeartbeats 4000000 in
set_option maxRecDepth 100000 in
theorem c_X6_sharesOf (l : Launch) (D : va_G) (cI : ClassId) (adK adV : Nat → Nat) (ad : Nat → Nat) (m_left : Int32) (m_bites : Int32) (m_many : Int32) (m_imageLeft : Int32) (m_imageBites : Int32) (m_imageMany : Int32) (m_wasLeft : Int32) (m_wasBites : Int32) (m_wasMany : Int32) (m_hasImage : Int32) (m_letterMany : Int32) (m_rowMany : Int32) (m_place : Int32) (m_seed : Int32) (m_kind : (Nat → Int32)) (m_figure : (Nat → Int32)) (m_imageKind : (Nat → Int32)) (m_imageFigure : (Nat → Int32)) (m_wasKind : (Nat → Int32)) (m_wasFigure : (Nat → Int32)) (m_letters : (Nat → Int32)) (m_row : (Nat → Int32)) (m_refused : (Nat → Int32)) (m_numbers : (Nat → Int32)) (m_counted : (Nat → Int32)) (m_few : (Nat → Int32)) (a1 : Int32) (o : Int32) (hf : f_X6_sharesOf m_many m_kind m_figure a1 = some o) : Ct l D cI adK adV yX6_sharesOf (wy yX6_sharesOf cX6_sharesOf 4 (some .int)) { frames := 5, cells := 0, slots := 0, locals := 117 } 0 0 [.ref (ad 0), .int a1] (wM ad cI m_left m_bites m_many m_imageLeft m_imageBites m_imageMany m_wasLeft m_wasBites m_wasMany m_hasImage m_letterMany m_rowMany m_place m_seed m_kind m_figure m_imageKind m_imageFigure m_wasKind m_wasFigure m_letters m_row m_refused m_numbers m_counted m_few) (fun _ => (wM ad cI m_left m_bites m_many m_imageLeft m_imageBites m_imageMany m_wasLeft m_wasBites m_wasMany m_hasImage m_letterMany m_rowMany m_place m_seed m_kind m_figure m_imageKind m_imageFigure m_wasKind m_wasFigure m_letters m_row m_refused m_numbers m_counted m_few)) (some (.int o)) := by
  refine Ct.of (cc := cX6_sharesOf) (nL := 4) (ret := (some .int)) (own := RX6) (by decide) (Nat.le_of_ble_eq_true rfl) rfl ?_
  intro p e s m args below meth c A C hr hlk hnm
  refine s_lv (lv1 := [(0, .ref (ad 0)), (1, .int a1)]) [0, 1] rfl ?_
  unfold f_X6_sharesOf at hf
  refine s_iconst C 1 rfl dX6_sharesOf_0 ic_0 ?_
  refine s_istore_n (lv1 := [(2, .int (0 : Int32)), (0, .ref (ad 0)), (1, .int a1)]) C 2 2 rfl dX6_sharesOf_1 rfl (Nat.le_of_ble_eq_true rfl) rfl ?_
  refine s_iconst C 3 rfl dX6_sharesOf_2 ic_0 ?_
  refine s_istore_n (lv1 := [(3, .int (0 : Int32)), (2, .int (0 : Int32)), (0, .ref (ad 0)), (1, .int a1)]) C 4 3 rfl dX6_sharesOf_3 rfl (Nat.le_of_ble_eq_true rfl) rfl ?_
  refine s_lv (lv1 := [(0, .ref (ad 0)), (1, .int a1), (2, .int (0 : Int32)), (3, .int (0 : Int32))]) [2, 3, 1, 0] rfl ?_
  refine s_loop (α := Int32 × Int32) (fun n v4 => f_X6_sharesOf_4 a1 m_many m_kind m_figure n v4.1 v4.2) 4 (fun v4 => [(0, .ref (ad 0)), (1, .int a1), (2, .int v4.1), (3, .int v4.2)]) (fun v4 => (wM ad cI m_left m_bites m_many m_imageLeft m_imageBites m_imageMany m_wasLeft m_wasBites m_wasMany m_hasImage m_letterMany m_rowMany m_place m_seed m_kind m_figure m_imageKind m_imageFigure m_wasKind m_wasFigure m_letters m_row m_refused m_numbers m_counted m_few)) 1000 ((0 : Int32), (0 : Int32)) hf (fun v4 hf => by simp only [f_X6_sharesOf_4] at hf; exact absurd hf (by simp)) (fun n ih5 v4 hf => ?_)
  replace hf := (f_X6_sharesOf_4_s _ _ _ _ _ _ _).symm.trans hf
  refine s_iload_n C 5 3 rfl dX6_sharesOf_4 rfl ?_
  refine s_aload_n C 6 0 rfl dX6_sharesOf_5 rfl ?_
  refine s_get (C1 := RX6) (T := TX6) (N := 26) (ci := 5) C 9 0 2 uX6 rfl rfl (Nat.le_of_ble_eq_true rfl) uu990 rfl rfl rfl dX6_sharesOf_6 ?_
  refine s_icmp_ge C 27 12 rfl dX6_sharesOf_9 rfl (fun hc8 => ?_) (fun hc8 => ?_)
  · replace hf := ite_t hc8 hf
    refine s_iload_n C 28 2 rfl dX6_sharesOf_27 rfl ?_
    obtain rfl := Option.some.inj hf
    exact s_iret C (fun i => i) hr hlk rfl rfl dX6_sharesOf_28
  · replace hf := ite_f hc8 hf
    refine s_iload_n C 13 2 rfl dX6_sharesOf_12 rfl ?_
    refine s_aload_n C 14 0 rfl dX6_sharesOf_13 rfl ?_
    refine s_iload_n C 15 1 rfl dX6_sharesOf_14 rfl ?_
    refine s_iload_n C 16 3 rfl dX6_sharesOf_15 rfl ?_
    obtain ⟨r6, q7, hf⟩ := bn_s hf
    refine s_callW (T := TX6) (N := 26) (ci := 5) (q0 := 0) (rest := [.int v4.1]) C 19 (c_X6_shareOf l D cI adK adV ad m_left m_bites m_many m_imageLeft m_imageBites m_imageMany m_wasLeft m_wasBites m_wasMany m_hasImage m_letterMany m_rowMany m_place m_seed m_kind m_figure m_imageKind m_imageFigure m_wasKind m_wasFigure m_letters m_row m_refused m_numbers m_counted m_few a1 v4.2 r6 q7) (gV uu1198 uu1200 uu1582 uu6 uu1201) hd_X6_shareOf rfl ⟨rfl, rfl⟩ ⟨Nat.le_of_ble_eq_true rfl, Nat.le_of_ble_eq_true rfl⟩ ⟨Nat.le_of_ble_eq_true rfl, Nat.le_of_ble_eq_true rfl⟩ rfl rfl rfl (Nat.le_of_ble_eq_true rfl) rfl dX6_sharesOf_16 (fun _ => ?_)
    refine s_iadd C 20 rfl dX6_sharesOf_19 ?_
    refine s_istore_n (lv1 := [(2, .int (v4.1 + r6)), (0, .ref (ad 0)), (1, .int a1), (3, .int v4.2)]) C 21 2 rfl dX6_sharesOf_20 rfl (Nat.le_of_ble_eq_true rfl) rfl ?_
    refine s_iinc (lv1 := [(3, .int (v4.2 + (1 : Int32))), (2, .int (v4.1 + r6)), (0, .ref (ad 0)), (1, .int a1)]) C 24 3 3 rfl dX6_sharesOf_21 rfl ic_1 (Nat.le_of_ble_eq_true rfl) rfl ?_
    refine s_goto C 4 dX6_sharesOf_24 rfl ?_
    exact s_lv [2, 3, 1, 0] rfl (ih5 ((v4.1 + r6, v4.2 + (1 : Int32)) : Int32 × Int32) hf)


theorem hd_X6_here : yX6_here.cls = RX6 ∧ yX6_here.cls ≠ "java/lang/invoke/MethodHandle" ∧ yX6_here.cls ≠ "java/lang/invoke/VarHandle" ∧ (parseMethodDescriptor yX6_here.desc).map (fun d => d.parameters.length) = some 0 := by decide +kernel
set_option maxHeartbeats 4000000 in
set_option maxRecDepth 100000 in
theorem c_X6_here (l : Launch) (D : va_G) (cI : ClassId) (adK adV : Nat → Nat) (ad : Nat → Nat) (m_left : Int32) (m_bites : Int32) (m_many : Int32) (m_imageLeft : Int32) (m_imageBites : Int32) (m_imageMany : Int32) (m_wasLeft : Int32) (m_wasBites : Int32) (m_wasMany : Int32) (m_hasImage : Int32) (m_letterMany : Int32) (m_rowMany : Int32) (m_place : Int32) (m_seed : Int32) (m_kind : (Nat → Int32)) (m_figure : (Nat → Int32)) (m_imageKind : (Nat → Int32)) (m_imageFigure : (Nat → Int32)) (m_wasKind : (Nat → Int32)) (m_wasFigure : (Nat → Int32)) (m_letters : (Nat → Int32)) (m_row : (Nat → Int32)) (m_refused : (Nat → Int32)) (m_numbers : (Nat → Int32)) (m_counted : (Nat → Int32)) (m_few : (Nat → Int32))  (o : Int32) (hf : f_X6_here m_letterMany m_place m_letters = some o) : Ct l D cI adK adV yX6_here (wy yX6_here cX6_here 1 (some .int)) { frames := 0, cells := 0, slots := 0, locals := 0 } 0 0 [.ref (ad 0)] (wM ad cI m_left m_bites m_many m_imageLeft m_imageBites m_imageMany m_wasLeft m_wasBites m_wasMany m_hasImage m_letterMany m_rowMany m_place m_seed m_kind m_figure m_imageKind m_imageFigure m_wasKind m_wasFigure m_letters m_row m_refused m_numbers m_counted m_few) (fun _ => (wM ad cI m_left m_bites m_many m_imageLeft m_imageBites m_imageMany m_wasLeft m_wasBites m_wasMany m_hasImage m_letterMany m_rowMany m_place m_seed m_kind m_figure m_imageKind m_imageFigure m_wasKind m_wasFigure m_letters m_row m_refused m_numbers m_counted m_few)) (some (.int o)) := by
  refine Ct.of (cc := cX6_here) (nL := 1) (ret := (some .int)) (own := RX6) (by decide) (Nat.le_of_ble_eq_true rfl) rfl ?_
  intro p e s m args below meth c A C hr hlk hnm
  refine s_lv (lv1 := [(0, .ref (ad 0))]) [0] rfl ?_
  unfold f_X6_here at hf
  refine s_aload_n C 1 0 rfl dX6_here_0 rfl ?_
  refine s_get (C1 := RX6) (T := TX6) (N := 26) (ci := 5) C 4 0 21 uX6 rfl rfl (Nat.le_of_ble_eq_true rfl) uu1028 rfl rfl rfl dX6_here_1 ?_
  refine s_aload_n C 5 0 rfl dX6_here_4 rfl ?_
  refine s_get (C1 := RX6) (T := TX6) (N := 26) (ci := 5) C 8 0 19 uX6 rfl rfl (Nat.le_of_ble_eq_true rfl) uu1024 rfl rfl rfl dX6_here_5 ?_
  refine s_icmp_ge C 23 11 rfl dX6_here_8 rfl (fun hc2 => ?_) (fun hc2 => ?_)
  · replace hf := ite_t hc2 hf
    refine s_iconst C 24 rfl dX6_here_23 ic_m1 ?_
    obtain rfl := Option.some.inj hf
    exact s_iret C (fun i => i) hr hlk rfl rfl dX6_here_24
  · replace hf := ite_f hc2 hf
    refine s_aload_n C 12 0 rfl dX6_here_11 rfl ?_
    refine s_get (C1 := RX6) (T := TX6) (N := 26) (ci := 5) C 15 0 16 uX6 rfl rfl (Nat.le_of_ble_eq_true rfl) uu1018 rfl rfl rfl dX6_here_12 ?_
    refine s_aload_n C 16 0 rfl dX6_here_15 rfl ?_
    refine s_get (C1 := RX6) (T := TX6) (N := 26) (ci := 5) C 19 0 21 uX6 rfl rfl (Nat.le_of_ble_eq_true rfl) uu1028 rfl rfl rfl dX6_here_16 ?_
    obtain ⟨h1, hf⟩ := ck_in hf
    refine s_iald C 20 7 rfl h1 rfl dX6_here_19 ?_
    refine s_goto C 24 dX6_here_20 rfl ?_
    obtain rfl := Option.some.inj hf
    exact s_iret C (fun i => i) hr hlk rfl rfl dX6_here_24


theorem hd_X6_readsNumber : yX6_readsNumber.cls = RX6 ∧ yX6_readsNumber.cls ≠ "java/lang/invoke/MethodHandle" ∧ yX6_readsNumber.cls ≠ "java/lang/invoke/VarHandle" ∧ (parseMethodDescriptor yX6_readsNumber.desc).map (fun d => d.parameters.length) = some 2 := by decide +kernel
set_option maxHeartbeats 4000000 in
set_option maxRecDepth 100000 in
theorem c_X6_readsNumber (l : Launch) (D : va_G) (cI : ClassId) (adK adV : Nat → Nat) (ad : Nat → Nat) (m_left : Int32) (m_bites : Int32) (m_many : Int32) (m_imageLeft : Int32) (m_imageBites : Int32) (m_imageMany : Int32) (m_wasLeft : Int32) (m_wasBites : Int32) (m_wasMany : Int32) (m_hasImage : Int32) (m_letterMany : Int32) (m_rowMany : Int32) (m_place : Int32) (m_seed : Int32) (m_kind : (Nat → Int32)) (m_figure : (Nat → Int32)) (m_imageKind : (Nat → Int32)) (m_imageFigure : (Nat → Int32)) (m_wasKind : (Nat → Int32)) (m_wasFigure : (Nat → Int32)) (m_letters : (Nat → Int32)) (m_row : (Nat → Int32)) (m_refused : (Nat → Int32)) (m_numbers : (Nat → Int32)) (m_counted : (Nat → Int32)) (m_few : (Nat → Int32)) (a1 : Int32) (a2 : Int32) (o : Int32 × Int32 × (Nat → Int32)) (hf : f_X6_readsNumber m_letterMany m_place m_letters m_numbers a1 a2 = some o) : Ct l D cI adK adV yX6_readsNumber (wy yX6_readsNumber cX6_readsNumber 4 (some .boolean)) { frames := 1, cells := 0, slots := 0, locals := 22 } 0 0 [.ref (ad 0), .int a1, .int a2] (wM ad cI m_left m_bites m_many m_imageLeft m_imageBites m_imageMany m_wasLeft m_wasBites m_wasMany m_hasImage m_letterMany m_rowMany m_place m_seed m_kind m_figure m_imageKind m_imageFigure m_wasKind m_wasFigure m_letters m_row m_refused m_numbers m_counted m_few) (fun _ => (wM ad cI m_left m_bites m_many m_imageLeft m_imageBites m_imageMany m_wasLeft m_wasBites m_wasMany m_hasImage m_letterMany m_rowMany o.2.1 m_seed m_kind m_figure m_imageKind m_imageFigure m_wasKind m_wasFigure m_letters m_row m_refused o.2.2 m_counted m_few)) (some (.int o.1)) := by
  refine Ct.of (cc := cX6_readsNumber) (nL := 4) (ret := (some .boolean)) (own := RX6) (by decide) (Nat.le_of_ble_eq_true rfl) rfl ?_
  intro p e s m args below meth c A C hr hlk hnm
  refine s_lv (lv1 := [(0, .ref (ad 0)), (1, .int a1), (2, .int a2)]) [0, 1, 2] rfl ?_
  unfold f_X6_readsNumber at hf
  refine s_aload_n C 1 0 rfl dX6_readsNumber_0 rfl ?_
  refine s_get (C1 := RX6) (T := TX6) (N := 26) (ci := 5) C 4 0 22 uX6 rfl rfl (Nat.le_of_ble_eq_true rfl) uu1030 rfl rfl rfl dX6_readsNumber_1 ?_
  refine s_iload_n C 5 1 rfl dX6_readsNumber_4 rfl ?_
  refine s_iconst C 6 rfl dX6_readsNumber_5 ic_0 ?_
  obtain ⟨h1, hf⟩ := ck_in hf
  refine s_iast (ws1 := (wM ad cI m_left m_bites m_many m_imageLeft m_imageBites m_imageMany m_wasLeft m_wasBites m_wasMany m_hasImage m_letterMany m_rowMany m_place m_seed m_kind m_figure m_imageKind m_imageFigure m_wasKind m_wasFigure m_letters m_row m_refused (upd m_numbers a1.toNatClampNeg (0 : Int32)) m_counted m_few)) C 7 10 rfl h1 rfl rfl dX6_readsNumber_6 ?_
  refine s_iconst C 8 rfl dX6_readsNumber_7 ic_0 ?_
  refine s_istore_n (lv1 := [(3, .int (0 : Int32)), (0, .ref (ad 0)), (1, .int a1), (2, .int a2)]) C 9 3 rfl dX6_readsNumber_8 rfl (Nat.le_of_ble_eq_true rfl) rfl ?_
  refine s_lv (lv1 := [(0, .ref (ad 0)), (1, .int a1), (2, .int a2), (3, .int (0 : Int32))]) [1, 2, 3, 0] rfl ?_
  refine s_loop (α := Int32 × Int32 × (Nat → Int32)) (fun n v12 => f_X6_readsNumber_9 a1 a2 m_letterMany m_letters n v12.1 v12.2.1 v12.2.2) 9 (fun v12 => [(0, .ref (ad 0)), (1, .int a1), (2, .int a2), (3, .int v12.1)]) (fun v12 => (wM ad cI m_left m_bites m_many m_imageLeft m_imageBites m_imageMany m_wasLeft m_wasBites m_wasMany m_hasImage m_letterMany m_rowMany v12.2.1 m_seed m_kind m_figure m_imageKind m_imageFigure m_wasKind m_wasFigure m_letters m_row m_refused v12.2.2 m_counted m_few)) 1000 ((0 : Int32), m_place, upd m_numbers a1.toNatClampNeg (0 : Int32)) hf (fun v12 hf => by simp only [f_X6_readsNumber_9] at hf; exact absurd hf (by simp)) (fun n ih13 v12 hf => ?_)
  replace hf := (f_X6_readsNumber_9_s _ _ _ _ _ _ _ _).symm.trans hf
  refine s_iload_n C 10 3 rfl dX6_readsNumber_9 rfl ?_
  refine s_iload_n C 11 2 rfl dX6_readsNumber_10 rfl ?_
  refine s_icmp_ge C 69 14 rfl dX6_readsNumber_11 rfl (fun hc23 => ?_) (fun hc23 => ?_)
  · replace hf := ite_t hc23 hf
    refine s_iconst C 70 rfl dX6_readsNumber_69 ic_1 ?_
    obtain rfl := Option.some.inj hf
    exact s_zret C (fun i => i) hr hlk (Or.inr rfl) rfl rfl dX6_readsNumber_70
  · replace hf := ite_f hc23 hf
    refine s_aload_n C 15 0 rfl dX6_readsNumber_14 rfl ?_
    obtain ⟨r14, q15, hf⟩ := bn_s hf
    refine s_callW (T := TX6) (N := 26) (ci := 5) (q0 := 0) (rest := []) C 18 (c_X6_here l D cI adK adV ad m_left m_bites m_many m_imageLeft m_imageBites m_imageMany m_wasLeft m_wasBites m_wasMany m_hasImage m_letterMany m_rowMany v12.2.1 m_seed m_kind m_figure m_imageKind m_imageFigure m_wasKind m_wasFigure m_letters m_row m_refused v12.2.2 m_counted m_few r14 q15) (gV uu1086 uu1088 uu1573 uu6 uu1089) hd_X6_here rfl ⟨rfl, rfl⟩ ⟨Nat.le_of_ble_eq_true rfl, Nat.le_of_ble_eq_true rfl⟩ ⟨Nat.le_of_ble_eq_true rfl, Nat.le_of_ble_eq_true rfl⟩ rfl rfl rfl (Nat.le_of_ble_eq_true rfl) rfl dX6_readsNumber_15 (fun _ => ?_)
    refine s_bipush C 20 rfl dX6_readsNumber_18 bp_48 ?_
    refine s_bipush C 22 rfl dX6_readsNumber_20 bp_57 ?_
    obtain ⟨r16, q17, hf⟩ := bn_s hf
    refine s_callS0 (host := "") (rest := []) C 25 (c_X6_isIn l D cI adK adV r14 (48 : Int32) (57 : Int32) r16 q17) (gS uu1106 uu1108 uu6 uu1109) hd_X6_isIn rfl ⟨rfl, rfl⟩ ⟨Nat.le_of_ble_eq_true rfl, Nat.le_of_ble_eq_true rfl⟩ ⟨Nat.le_of_ble_eq_true rfl, Nat.le_of_ble_eq_true rfl⟩ rfl (Nat.le_of_ble_eq_true rfl) rfl dX6_readsNumber_22 ?_
    refine s_if_ne C 30 28 rfl dX6_readsNumber_25 rfl (fun hc22 => ?_) (fun hc22 => ?_)
    · replace hf := ite_f hc22 hf
      refine s_aload_n C 31 0 rfl dX6_readsNumber_30 rfl ?_
      refine s_get (C1 := RX6) (T := TX6) (N := 26) (ci := 5) C 34 0 22 uX6 rfl rfl (Nat.le_of_ble_eq_true rfl) uu1030 rfl rfl rfl dX6_readsNumber_31 ?_
      refine s_iload_n C 35 1 rfl dX6_readsNumber_34 rfl ?_
      refine s_bipush C 37 rfl dX6_readsNumber_35 bp_10 ?_
      refine s_aload_n C 38 0 rfl dX6_readsNumber_37 rfl ?_
      refine s_get (C1 := RX6) (T := TX6) (N := 26) (ci := 5) C 41 0 22 uX6 rfl rfl (Nat.le_of_ble_eq_true rfl) uu1030 rfl rfl rfl dX6_readsNumber_38 ?_
      refine s_iload_n C 42 1 rfl dX6_readsNumber_41 rfl ?_
      obtain ⟨h18, hf⟩ := ck_in hf
      refine s_iald C 43 10 rfl h18 rfl dX6_readsNumber_42 ?_
      refine s_imul C 44 rfl dX6_readsNumber_43 ?_
      refine s_aload_n C 45 0 rfl dX6_readsNumber_44 rfl ?_
      obtain ⟨r19, q20, hf⟩ := bn_s hf
      refine s_callW (T := TX6) (N := 26) (ci := 5) (q0 := 0) (rest := [.int ((10 : Int32) * (v12.2.2 a1.toNatClampNeg)), .int a1, .ref (ad 10)]) C 48 (c_X6_here l D cI adK adV ad m_left m_bites m_many m_imageLeft m_imageBites m_imageMany m_wasLeft m_wasBites m_wasMany m_hasImage m_letterMany m_rowMany v12.2.1 m_seed m_kind m_figure m_imageKind m_imageFigure m_wasKind m_wasFigure m_letters m_row m_refused v12.2.2 m_counted m_few r19 q20) (gV uu1086 uu1088 uu1573 uu6 uu1089) hd_X6_here rfl ⟨rfl, rfl⟩ ⟨Nat.le_of_ble_eq_true rfl, Nat.le_of_ble_eq_true rfl⟩ ⟨Nat.le_of_ble_eq_true rfl, Nat.le_of_ble_eq_true rfl⟩ rfl rfl rfl (Nat.le_of_ble_eq_true rfl) rfl dX6_readsNumber_45 (fun _ => ?_)
      refine s_iadd C 49 rfl dX6_readsNumber_48 ?_
      refine s_bipush C 51 rfl dX6_readsNumber_49 bp_48 ?_
      refine s_isub C 52 rfl dX6_readsNumber_51 ?_
      obtain ⟨h21, hf⟩ := ck_in hf
      refine s_iast (ws1 := (wM ad cI m_left m_bites m_many m_imageLeft m_imageBites m_imageMany m_wasLeft m_wasBites m_wasMany m_hasImage m_letterMany m_rowMany v12.2.1 m_seed m_kind m_figure m_imageKind m_imageFigure m_wasKind m_wasFigure m_letters m_row m_refused (upd v12.2.2 a1.toNatClampNeg ((((10 : Int32) * (v12.2.2 a1.toNatClampNeg)) + r19) - (48 : Int32))) m_counted m_few)) C 53 10 rfl h21 rfl rfl dX6_readsNumber_52 ?_
      refine s_aload_n C 54 0 rfl dX6_readsNumber_53 rfl ?_
      refine s_dup C 55 rfl dX6_readsNumber_54 rfl ?_
      refine s_get (C1 := RX6) (T := TX6) (N := 26) (ci := 5) C 58 0 21 uX6 rfl rfl (Nat.le_of_ble_eq_true rfl) uu1028 rfl rfl rfl dX6_readsNumber_55 ?_
      refine s_iconst C 59 rfl dX6_readsNumber_58 ic_1 ?_
      refine s_iadd C 60 rfl dX6_readsNumber_59 ?_
      refine s_put (C1 := RX6) (T := TX6) (N := 26) (ci := 5) (ty := tyX6 21) (ws1 := (wM ad cI m_left m_bites m_many m_imageLeft m_imageBites m_imageMany m_wasLeft m_wasBites m_wasMany m_hasImage m_letterMany m_rowMany (v12.2.1 + (1 : Int32)) m_seed m_kind m_figure m_imageKind m_imageFigure m_wasKind m_wasFigure m_letters m_row m_refused (upd v12.2.2 a1.toNatClampNeg ((((10 : Int32) * (v12.2.2 a1.toNatClampNeg)) + r19) - (48 : Int32))) m_counted m_few)) C 63 0 21 uX6 tyX6 tyX6_ok nmX6 rfl rfl (Nat.le_of_ble_eq_true rfl) uu1028 rfl rfl (tyX6_ok 21 (Nat.le_of_ble_eq_true rfl)) ⟨rfl, rfl⟩ (Nat.le_of_ble_eq_true rfl) rfl rfl dX6_readsNumber_60 ?_
      refine s_iinc (lv1 := [(3, .int (v12.1 + (1 : Int32))), (0, .ref (ad 0)), (1, .int a1), (2, .int a2)]) C 66 3 3 rfl dX6_readsNumber_63 rfl ic_1 (Nat.le_of_ble_eq_true rfl) rfl ?_
      refine s_goto C 9 dX6_readsNumber_66 rfl ?_
      exact s_lv [1, 2, 3, 0] rfl (ih13 ((v12.1 + (1 : Int32), v12.2.1 + (1 : Int32), upd v12.2.2 a1.toNatClampNeg ((((10 : Int32) * (v12.2.2 a1.toNatClampNeg)) + r19) - (48 : Int32))) : Int32 × Int32 × (Nat → Int32)) hf)
    · replace hf := ite_t hc22 hf
      refine s_iconst C 29 rfl dX6_readsNumber_28 ic_0 ?_
      obtain rfl := Option.some.inj hf
      exact s_zret C (fun i => i) hr hlk (Or.inl rfl) rfl rfl dX6_readsNumber_29


theorem hd_X6_readsKind : yX6_readsKind.cls = RX6 ∧ yX6_readsKind.cls ≠ "java/lang/invoke/MethodHandle" ∧ yX6_readsKind.cls ≠ "java/lang/invoke/VarHandle" ∧ (parseMethodDescriptor yX6_readsKind.desc).map (fun d => d.parameters.length) = some 0 := by decide +kernel
set_option maxHeartbeats 4000000 in
set_option maxRecDepth 100000 in
theorem c_X6_readsKind (l : Launch) (D : va_G) (cI : ClassId) (adK adV : Nat → Nat) (ad : Nat → Nat) (m_left : Int32) (m_bites : Int32) (m_many : Int32) (m_imageLeft : Int32) (m_imageBites : Int32) (m_imageMany : Int32) (m_wasLeft : Int32) (m_wasBites : Int32) (m_wasMany : Int32) (m_hasImage : Int32) (m_letterMany : Int32) (m_rowMany : Int32) (m_place : Int32) (m_seed : Int32) (m_kind : (Nat → Int32)) (m_figure : (Nat → Int32)) (m_imageKind : (Nat → Int32)) (m_imageFigure : (Nat → Int32)) (m_wasKind : (Nat → Int32)) (m_wasFigure : (Nat → Int32)) (m_letters : (Nat → Int32)) (m_row : (Nat → Int32)) (m_refused : (Nat → Int32)) (m_numbers : (Nat → Int32)) (m_counted : (Nat → Int32)) (m_few : (Nat → Int32))  (o : Int32 × Int32 × (Nat → Int32)) (hf : f_X6_readsKind m_letterMany m_place m_letters m_numbers = some o) : Ct l D cI adK adV yX6_readsKind (wy yX6_readsKind cX6_readsKind 1 (some .boolean)) { frames := 1, cells := 0, slots := 0, locals := 20 } 0 0 [.ref (ad 0)] (wM ad cI m_left m_bites m_many m_imageLeft m_imageBites m_imageMany m_wasLeft m_wasBites m_wasMany m_hasImage m_letterMany m_rowMany m_place m_seed m_kind m_figure m_imageKind m_imageFigure m_wasKind m_wasFigure m_letters m_row m_refused m_numbers m_counted m_few) (fun _ => (wM ad cI m_left m_bites m_many m_imageLeft m_imageBites m_imageMany m_wasLeft m_wasBites m_wasMany m_hasImage m_letterMany m_rowMany o.2.1 m_seed m_kind m_figure m_imageKind m_imageFigure m_wasKind m_wasFigure m_letters m_row m_refused o.2.2 m_counted m_few)) (some (.int o.1)) := by
  refine Ct.of (cc := cX6_readsKind) (nL := 1) (ret := (some .boolean)) (own := RX6) (by decide) (Nat.le_of_ble_eq_true rfl) rfl ?_
  intro p e s m args below meth c A C hr hlk hnm
  refine s_lv (lv1 := [(0, .ref (ad 0))]) [0] rfl ?_
  unfold f_X6_readsKind at hf
  refine s_aload_n C 1 0 rfl dX6_readsKind_0 rfl ?_
  refine s_get (C1 := RX6) (T := TX6) (N := 26) (ci := 5) C 4 0 22 uX6 rfl rfl (Nat.le_of_ble_eq_true rfl) uu1030 rfl rfl rfl dX6_readsKind_1 ?_
  refine s_iconst C 5 rfl dX6_readsKind_4 ic_0 ?_
  refine s_aload_n C 6 0 rfl dX6_readsKind_5 rfl ?_
  obtain ⟨r1, q2, hf⟩ := bn_s hf
  refine s_callW (T := TX6) (N := 26) (ci := 5) (q0 := 0) (rest := [.int (0 : Int32), .ref (ad 10)]) C 9 (c_X6_here l D cI adK adV ad m_left m_bites m_many m_imageLeft m_imageBites m_imageMany m_wasLeft m_wasBites m_wasMany m_hasImage m_letterMany m_rowMany m_place m_seed m_kind m_figure m_imageKind m_imageFigure m_wasKind m_wasFigure m_letters m_row m_refused m_numbers m_counted m_few r1 q2) (gV uu1086 uu1088 uu1573 uu6 uu1089) hd_X6_here rfl ⟨rfl, rfl⟩ ⟨Nat.le_of_ble_eq_true rfl, Nat.le_of_ble_eq_true rfl⟩ ⟨Nat.le_of_ble_eq_true rfl, Nat.le_of_ble_eq_true rfl⟩ rfl rfl rfl (Nat.le_of_ble_eq_true rfl) rfl dX6_readsKind_6 (fun _ => ?_)
  obtain ⟨r3, q4, hf⟩ := bn_s hf
  refine s_callS0 (host := "") (rest := [.int (0 : Int32), .ref (ad 10)]) C 12 (c_X6_kindBy l D cI adK adV r1 r3 q4) (gS uu1096 uu1098 uu6 uu1099) hd_X6_kindBy rfl ⟨rfl, rfl⟩ ⟨Nat.le_of_ble_eq_true rfl, Nat.le_of_ble_eq_true rfl⟩ ⟨Nat.le_of_ble_eq_true rfl, Nat.le_of_ble_eq_true rfl⟩ rfl (Nat.le_of_ble_eq_true rfl) rfl dX6_readsKind_9 ?_
  obtain ⟨h5, hf⟩ := ck_in hf
  refine s_iast (ws1 := (wM ad cI m_left m_bites m_many m_imageLeft m_imageBites m_imageMany m_wasLeft m_wasBites m_wasMany m_hasImage m_letterMany m_rowMany m_place m_seed m_kind m_figure m_imageKind m_imageFigure m_wasKind m_wasFigure m_letters m_row m_refused (upd m_numbers (0 : Int32).toNatClampNeg r3) m_counted m_few)) C 13 10 rfl h5 rfl rfl dX6_readsKind_12 ?_
  refine s_aload_n C 14 0 rfl dX6_readsKind_13 rfl ?_
  refine s_dup C 15 rfl dX6_readsKind_14 rfl ?_
  refine s_get (C1 := RX6) (T := TX6) (N := 26) (ci := 5) C 18 0 21 uX6 rfl rfl (Nat.le_of_ble_eq_true rfl) uu1028 rfl rfl rfl dX6_readsKind_15 ?_
  refine s_aload_n C 19 0 rfl dX6_readsKind_18 rfl ?_
  refine s_get (C1 := RX6) (T := TX6) (N := 26) (ci := 5) C 22 0 22 uX6 rfl rfl (Nat.le_of_ble_eq_true rfl) uu1030 rfl rfl rfl dX6_readsKind_19 ?_
  refine s_iconst C 23 rfl dX6_readsKind_22 ic_0 ?_
  obtain ⟨h6, hf⟩ := ck_in hf
  refine s_iald C 24 10 rfl h6 rfl dX6_readsKind_23 ?_
  refine s_jn (α := Int32) 32 (fun j7 => [(0, .ref (ad 0))]) (fun j7 => [.int j7, .int m_place, .ref (ad 0)]) (fun j7 => (wM ad cI m_left m_bites m_many m_imageLeft m_imageBites m_imageMany m_wasLeft m_wasBites m_wasMany m_hasImage m_letterMany m_rowMany m_place m_seed m_kind m_figure m_imageKind m_imageFigure m_wasKind m_wasFigure m_letters m_row m_refused (upd m_numbers (0 : Int32).toNatClampNeg r3) m_counted m_few)) hf (fun j7 hf => ?_) (fun hj hf => ?_)
  · refine s_iadd C 33 rfl dX6_readsKind_32 ?_
    refine s_put (C1 := RX6) (T := TX6) (N := 26) (ci := 5) (ty := tyX6 21) (ws1 := (wM ad cI m_left m_bites m_many m_imageLeft m_imageBites m_imageMany m_wasLeft m_wasBites m_wasMany m_hasImage m_letterMany m_rowMany (m_place + j7) m_seed m_kind m_figure m_imageKind m_imageFigure m_wasKind m_wasFigure m_letters m_row m_refused (upd m_numbers (0 : Int32).toNatClampNeg r3) m_counted m_few)) C 36 0 21 uX6 tyX6 tyX6_ok nmX6 rfl rfl (Nat.le_of_ble_eq_true rfl) uu1028 rfl rfl (tyX6_ok 21 (Nat.le_of_ble_eq_true rfl)) ⟨rfl, rfl⟩ (Nat.le_of_ble_eq_true rfl) rfl rfl dX6_readsKind_33 ?_
    refine s_aload_n C 37 0 rfl dX6_readsKind_36 rfl ?_
    refine s_get (C1 := RX6) (T := TX6) (N := 26) (ci := 5) C 40 0 22 uX6 rfl rfl (Nat.le_of_ble_eq_true rfl) uu1030 rfl rfl rfl dX6_readsKind_37 ?_
    refine s_iconst C 41 rfl dX6_readsKind_40 ic_0 ?_
    obtain ⟨h9, hf⟩ := ck_in hf
    refine s_iald C 42 10 rfl h9 rfl dX6_readsKind_41 ?_
    refine s_if_lt C 49 45 rfl dX6_readsKind_42 rfl (fun hc10 => ?_) (fun hc10 => ?_)
    · replace hf := ite_t hc10 hf
      refine s_iconst C 50 rfl dX6_readsKind_49 ic_0 ?_
      obtain rfl := Option.some.inj hf
      exact s_zret C (fun i => i) hr hlk (Or.inl rfl) rfl rfl dX6_readsKind_50
    · replace hf := ite_f hc10 hf
      refine s_iconst C 46 rfl dX6_readsKind_45 ic_1 ?_
      refine s_goto C 50 dX6_readsKind_46 rfl ?_
      obtain rfl := Option.some.inj hf
      exact s_zret C (fun i => i) hr hlk (Or.inr rfl) rfl rfl dX6_readsKind_50
  · refine s_if_ge C 31 27 rfl dX6_readsKind_24 rfl (fun hc8 => ?_) (fun hc8 => ?_)
    · replace hf := jn_t hc8 hf
      refine s_iconst C 32 rfl dX6_readsKind_31 ic_1 ?_
      replace hf := jn_i hf
      exact s_lv [0] rfl (hj ((1 : Int32) : Int32) hf)
    · replace hf := jn_f hc8 hf
      refine s_iconst C 28 rfl dX6_readsKind_27 ic_0 ?_
      refine s_goto C 32 dX6_readsKind_28 rfl ?_
      replace hf := jn_i hf
      exact s_lv [0] rfl (hj ((0 : Int32) : Int32) hf)

theorem sw_off_X6_readsStatement_16 {x : Int32} (h0 : ¬ x = (98 : Int32)) (h1 : ¬ x = (104 : Int32)) (h2 : ¬ x = (108 : Int32)) (h3 : ¬ x = (110 : Int32)) (h4 : ¬ x = (114 : Int32)) : Op.lookupswitch.offset ([(98, 77), (104, 52), (108, 104), (110, 124), (114, 114)] : List (Int × Int)) (129) x.toInt = 129 := by
  simp only [Op.lookupswitch.offset]
  rw [if_neg (fun q => ne_toInt h0 q.symm)]
  rw [if_neg (fun q => ne_toInt h1 q.symm)]
  rw [if_neg (fun q => ne_toInt h2 q.symm)]
  rw [if_neg (fun q => ne_toInt h3 q.symm)]
  rw [if_neg (fun q => ne_toInt h4 q.symm)]

theorem hd_X6_readsStatement : yX6_readsStatement.cls = RX6 ∧ yX6_readsStatement.cls ≠ "java/lang/invoke/MethodHandle" ∧ yX6_readsStatement.cls ≠ "java/lang/invoke/VarHandle" ∧ (parseMethodDescriptor yX6_readsStatement.desc).map (fun d => d.parameters.length) = some 0 := by decide +kernel
set_option maxHeartbeats 4000000 in
set_option maxRecDepth 100000 in
theorem c_X6_readsStatement (l : Launch) (D : va_G) (cI : ClassId) (adK adV : Nat → Nat) (ad : Nat → Nat) (m_left : Int32) (m_bites : Int32) (m_many : Int32) (m_imageLeft : Int32) (m_imageBites : Int32) (m_imageMany : Int32) (m_wasLeft : Int32) (m_wasBites : Int32) (m_wasMany : Int32) (m_hasImage : Int32) (m_letterMany : Int32) (m_rowMany : Int32) (m_place : Int32) (m_seed : Int32) (m_kind : (Nat → Int32)) (m_figure : (Nat → Int32)) (m_imageKind : (Nat → Int32)) (m_imageFigure : (Nat → Int32)) (m_wasKind : (Nat → Int32)) (m_wasFigure : (Nat → Int32)) (m_letters : (Nat → Int32)) (m_row : (Nat → Int32)) (m_refused : (Nat → Int32)) (m_numbers : (Nat → Int32)) (m_counted : (Nat → Int32)) (m_few : (Nat → Int32))  (o : Int32 × Int32 × (Nat → Int32)) (hf : f_X6_readsStatement m_letterMany m_place m_letters m_numbers = some o) : Ct l D cI adK adV yX6_readsStatement (wy yX6_readsStatement cX6_readsStatement 3 (some .boolean)) { frames := 2, cells := 0, slots := 0, locals := 45 } 0 0 [.ref (ad 0)] (wM ad cI m_left m_bites m_many m_imageLeft m_imageBites m_imageMany m_wasLeft m_wasBites m_wasMany m_hasImage m_letterMany m_rowMany m_place m_seed m_kind m_figure m_imageKind m_imageFigure m_wasKind m_wasFigure m_letters m_row m_refused m_numbers m_counted m_few) (fun _ => (wM ad cI m_left m_bites m_many m_imageLeft m_imageBites m_imageMany m_wasLeft m_wasBites m_wasMany m_hasImage m_letterMany m_rowMany o.2.1 m_seed m_kind m_figure m_imageKind m_imageFigure m_wasKind m_wasFigure m_letters m_row m_refused o.2.2 m_counted m_few)) (some (.int o.1)) := by
  refine Ct.of (cc := cX6_readsStatement) (nL := 3) (ret := (some .boolean)) (own := RX6) (by decide) (Nat.le_of_ble_eq_true rfl) rfl ?_
  intro p e s m args below meth c A C hr hlk hnm
  refine s_lv (lv1 := [(0, .ref (ad 0))]) [0] rfl ?_
  unfold f_X6_readsStatement at hf
  refine s_aload_n C 1 0 rfl dX6_readsStatement_0 rfl ?_
  obtain ⟨r1, q2, hf⟩ := bn_s hf
  refine s_callW (T := TX6) (N := 26) (ci := 5) (q0 := 0) (rest := []) C 4 (c_X6_here l D cI adK adV ad m_left m_bites m_many m_imageLeft m_imageBites m_imageMany m_wasLeft m_wasBites m_wasMany m_hasImage m_letterMany m_rowMany m_place m_seed m_kind m_figure m_imageKind m_imageFigure m_wasKind m_wasFigure m_letters m_row m_refused m_numbers m_counted m_few r1 q2) (gV uu1086 uu1088 uu1573 uu6 uu1089) hd_X6_here rfl ⟨rfl, rfl⟩ ⟨Nat.le_of_ble_eq_true rfl, Nat.le_of_ble_eq_true rfl⟩ ⟨Nat.le_of_ble_eq_true rfl, Nat.le_of_ble_eq_true rfl⟩ rfl rfl rfl (Nat.le_of_ble_eq_true rfl) rfl dX6_readsStatement_1 (fun _ => ?_)
  refine s_istore_n (lv1 := [(1, .int r1), (0, .ref (ad 0))]) C 5 1 rfl dX6_readsStatement_4 rfl (Nat.le_of_ble_eq_true rfl) rfl ?_
  refine s_aload_n C 6 1 rfl dX6_readsStatement_5 rfl ?_
  refine s_dup C 7 rfl dX6_readsStatement_6 rfl ?_
  refine s_get (C1 := RX6) (T := TX6) (N := 26) (ci := 5) C 10 0 21 uX6 rfl rfl (Nat.le_of_ble_eq_true rfl) uu1028 rfl rfl rfl dX6_readsStatement_7 ?_
  refine s_iconst C 11 rfl dX6_readsStatement_10 ic_1 ?_
  refine s_iadd C 12 rfl dX6_readsStatement_11 ?_
  refine s_put (C1 := RX6) (T := TX6) (N := 26) (ci := 5) (ty := tyX6 21) (ws1 := (wM ad cI m_left m_bites m_many m_imageLeft m_imageBites m_imageMany m_wasLeft m_wasBites m_wasMany m_hasImage m_letterMany m_rowMany (m_place + (1 : Int32)) m_seed m_kind m_figure m_imageKind m_imageFigure m_wasKind m_wasFigure m_letters m_row m_refused m_numbers m_counted m_few)) C 15 0 21 uX6 tyX6 tyX6_ok nmX6 rfl rfl (Nat.le_of_ble_eq_true rfl) uu1028 rfl rfl (tyX6_ok 21 (Nat.le_of_ble_eq_true rfl)) ⟨rfl, rfl⟩ (Nat.le_of_ble_eq_true rfl) rfl rfl dX6_readsStatement_12 ?_
  refine s_iload_n C 16 0 rfl dX6_readsStatement_15 rfl ?_
  by_cases hc14 : r1 = (98 : Int32)
  · replace hf := ite_t hc14 hf
    refine s_lookup (off := 77) C 93 dX6_readsStatement_16 rfl (by rw [hc14]; rfl) rfl ?_
    refine s_aload_n C 94 1 rfl dX6_readsStatement_93 rfl ?_
    refine s_iconst C 95 rfl dX6_readsStatement_94 ic_0 ?_
    refine s_iconst C 96 rfl dX6_readsStatement_95 ic_1 ?_
    obtain ⟨r3, q4, hf⟩ := bn_s hf
    refine s_callW (T := TX6) (N := 26) (ci := 5) (q0 := 0) (rest := []) C 99 (c_X6_readsNumber l D cI adK adV ad m_left m_bites m_many m_imageLeft m_imageBites m_imageMany m_wasLeft m_wasBites m_wasMany m_hasImage m_letterMany m_rowMany (m_place + (1 : Int32)) m_seed m_kind m_figure m_imageKind m_imageFigure m_wasKind m_wasFigure m_letters m_row m_refused m_numbers m_counted m_few (0 : Int32) (1 : Int32) r3 q4) (gV uu1101 uu1103 uu1575 uu6 uu1104) hd_X6_readsNumber rfl ⟨rfl, rfl⟩ ⟨Nat.le_of_ble_eq_true rfl, Nat.le_of_ble_eq_true rfl⟩ ⟨Nat.le_of_ble_eq_true rfl, Nat.le_of_ble_eq_true rfl⟩ rfl rfl rfl (Nat.le_of_ble_eq_true rfl) rfl dX6_readsStatement_96 (fun _ => ?_)
    refine s_bn (α := Int32 × (Nat → Int32) × Int32) 116 (fun j5 => [(0, .ref (ad 0))]) (fun j5 => [.int j5.1]) (fun j5 => (wM ad cI m_left m_bites m_many m_imageLeft m_imageBites m_imageMany m_wasLeft m_wasBites m_wasMany m_hasImage m_letterMany m_rowMany j5.2.2 m_seed m_kind m_figure m_imageKind m_imageFigure m_wasKind m_wasFigure m_letters m_row m_refused j5.2.1 m_counted m_few)) hf (fun j5 hf => ?_) (fun hj hf => ?_)
    · refine s_istore_n (lv1 := [(2, .int j5.1), (0, .ref (ad 0))]) C 117 2 rfl dX6_readsStatement_116 rfl (Nat.le_of_ble_eq_true rfl) rfl ?_
      refine s_goto C 157 dX6_readsStatement_117 rfl ?_
      refine s_iload_n C 158 0 rfl dX6_readsStatement_157 rfl ?_
      refine s_if_eq C 170 161 rfl dX6_readsStatement_158 rfl (fun hc13 => ?_) (fun hc13 => ?_)
      · replace hf := ite_t hc13 hf
        refine s_iconst C 171 rfl dX6_readsStatement_170 ic_0 ?_
        obtain rfl := Option.some.inj hf
        exact s_zret C (fun i => i) hr hlk (Or.inl rfl) rfl rfl dX6_readsStatement_171
      · replace hf := ite_f hc13 hf
        refine s_aload_n C 162 1 rfl dX6_readsStatement_161 rfl ?_
        obtain ⟨r10, q11, hf⟩ := bn_s hf
        refine s_callW (T := TX6) (N := 26) (ci := 5) (q0 := 0) (rest := []) C 165 (c_X6_here l D cI adK adV ad m_left m_bites m_many m_imageLeft m_imageBites m_imageMany m_wasLeft m_wasBites m_wasMany m_hasImage m_letterMany m_rowMany j5.2.2 m_seed m_kind m_figure m_imageKind m_imageFigure m_wasKind m_wasFigure m_letters m_row m_refused j5.2.1 m_counted m_few r10 q11) (gV uu1086 uu1088 uu1573 uu6 uu1089) hd_X6_here rfl ⟨rfl, rfl⟩ ⟨Nat.le_of_ble_eq_true rfl, Nat.le_of_ble_eq_true rfl⟩ ⟨Nat.le_of_ble_eq_true rfl, Nat.le_of_ble_eq_true rfl⟩ rfl rfl rfl (Nat.le_of_ble_eq_true rfl) rfl dX6_readsStatement_162 (fun _ => ?_)
        refine s_bipush C 167 rfl dX6_readsStatement_165 bp_59 ?_
        refine s_icmp_eq C 172 170 rfl dX6_readsStatement_167 rfl (fun hc12 => ?_) (fun hc12 => ?_)
        · replace hf := ite_t hc12 hf
          refine s_aload_n C 173 1 rfl dX6_readsStatement_172 rfl ?_
          refine s_dup C 174 rfl dX6_readsStatement_173 rfl ?_
          refine s_get (C1 := RX6) (T := TX6) (N := 26) (ci := 5) C 177 0 21 uX6 rfl rfl (Nat.le_of_ble_eq_true rfl) uu1028 rfl rfl rfl dX6_readsStatement_174 ?_
          refine s_iconst C 178 rfl dX6_readsStatement_177 ic_1 ?_
          refine s_iadd C 179 rfl dX6_readsStatement_178 ?_
          refine s_put (C1 := RX6) (T := TX6) (N := 26) (ci := 5) (ty := tyX6 21) (ws1 := (wM ad cI m_left m_bites m_many m_imageLeft m_imageBites m_imageMany m_wasLeft m_wasBites m_wasMany m_hasImage m_letterMany m_rowMany (j5.2.2 + (1 : Int32)) m_seed m_kind m_figure m_imageKind m_imageFigure m_wasKind m_wasFigure m_letters m_row m_refused j5.2.1 m_counted m_few)) C 182 0 21 uX6 tyX6 tyX6_ok nmX6 rfl rfl (Nat.le_of_ble_eq_true rfl) uu1028 rfl rfl (tyX6_ok 21 (Nat.le_of_ble_eq_true rfl)) ⟨rfl, rfl⟩ (Nat.le_of_ble_eq_true rfl) rfl rfl dX6_readsStatement_179 ?_
          refine s_iconst C 183 rfl dX6_readsStatement_182 ic_1 ?_
          obtain rfl := Option.some.inj hf
          exact s_zret C (fun i => i) hr hlk (Or.inr rfl) rfl rfl dX6_readsStatement_183
        · replace hf := ite_f hc12 hf
          refine s_iconst C 171 rfl dX6_readsStatement_170 ic_0 ?_
          obtain rfl := Option.some.inj hf
          exact s_zret C (fun i => i) hr hlk (Or.inl rfl) rfl rfl dX6_readsStatement_171
    · refine s_if_eq C 115 102 rfl dX6_readsStatement_99 rfl (fun hc9 => ?_) (fun hc9 => ?_)
      · replace hf := bn_t hc9 hf
        refine s_iconst C 116 rfl dX6_readsStatement_115 ic_0 ?_
        replace hf := bn_i hf
        exact s_lv [1] rfl (hj (((0 : Int32), r3.2.2, r3.2.1) : Int32 × (Nat → Int32) × Int32) hf)
      · replace hf := bn_f hc9 hf
        refine s_aload_n C 103 1 rfl dX6_readsStatement_102 rfl ?_
        refine s_iconst C 104 rfl dX6_readsStatement_103 ic_1 ?_
        refine s_iconst C 105 rfl dX6_readsStatement_104 ic_2 ?_
        obtain ⟨r6, q7, hf⟩ := bn_b hf
        refine s_callW (T := TX6) (N := 26) (ci := 5) (q0 := 0) (rest := []) C 108 (c_X6_readsNumber l D cI adK adV ad m_left m_bites m_many m_imageLeft m_imageBites m_imageMany m_wasLeft m_wasBites m_wasMany m_hasImage m_letterMany m_rowMany r3.2.1 m_seed m_kind m_figure m_imageKind m_imageFigure m_wasKind m_wasFigure m_letters m_row m_refused r3.2.2 m_counted m_few (1 : Int32) (2 : Int32) r6 q7) (gV uu1101 uu1103 uu1575 uu6 uu1104) hd_X6_readsNumber rfl ⟨rfl, rfl⟩ ⟨Nat.le_of_ble_eq_true rfl, Nat.le_of_ble_eq_true rfl⟩ ⟨Nat.le_of_ble_eq_true rfl, Nat.le_of_ble_eq_true rfl⟩ rfl rfl rfl (Nat.le_of_ble_eq_true rfl) rfl dX6_readsStatement_105 (fun _ => ?_)
        refine s_if_eq C 115 111 rfl dX6_readsStatement_108 rfl (fun hc8 => ?_) (fun hc8 => ?_)
        · replace hf := bn_t hc8 hf
          refine s_iconst C 116 rfl dX6_readsStatement_115 ic_0 ?_
          replace hf := bn_i hf
          exact s_lv [1] rfl (hj (((0 : Int32), r6.2.2, r6.2.1) : Int32 × (Nat → Int32) × Int32) hf)
        · replace hf := bn_f hc8 hf
          refine s_iconst C 112 rfl dX6_readsStatement_111 ic_1 ?_
          refine s_goto C 116 dX6_readsStatement_112 rfl ?_
          replace hf := bn_i hf
          exact s_lv [1] rfl (hj (((1 : Int32), r6.2.2, r6.2.1) : Int32 × (Nat → Int32) × Int32) hf)
  · replace hf := ite_f hc14 hf
    by_cases hc26 : r1 = (104 : Int32)
    · replace hf := ite_t hc26 hf
      refine s_lookup (off := 52) C 68 dX6_readsStatement_16 rfl (by rw [hc26]; rfl) rfl ?_
      refine s_aload_n C 69 1 rfl dX6_readsStatement_68 rfl ?_
      obtain ⟨r15, q16, hf⟩ := bn_s hf
      refine s_callW (T := TX6) (N := 26) (ci := 5) (q0 := 0) (rest := []) C 72 (c_X6_readsKind l D cI adK adV ad m_left m_bites m_many m_imageLeft m_imageBites m_imageMany m_wasLeft m_wasBites m_wasMany m_hasImage m_letterMany m_rowMany (m_place + (1 : Int32)) m_seed m_kind m_figure m_imageKind m_imageFigure m_wasKind m_wasFigure m_letters m_row m_refused m_numbers m_counted m_few r15 q16) (gV uu1091 uu1093 uu1574 uu6 uu1094) hd_X6_readsKind rfl ⟨rfl, rfl⟩ ⟨Nat.le_of_ble_eq_true rfl, Nat.le_of_ble_eq_true rfl⟩ ⟨Nat.le_of_ble_eq_true rfl, Nat.le_of_ble_eq_true rfl⟩ rfl rfl rfl (Nat.le_of_ble_eq_true rfl) rfl dX6_readsStatement_69 (fun _ => ?_)
      refine s_bn (α := Int32 × (Nat → Int32) × Int32) 89 (fun j17 => [(0, .ref (ad 0))]) (fun j17 => [.int j17.1]) (fun j17 => (wM ad cI m_left m_bites m_many m_imageLeft m_imageBites m_imageMany m_wasLeft m_wasBites m_wasMany m_hasImage m_letterMany m_rowMany j17.2.2 m_seed m_kind m_figure m_imageKind m_imageFigure m_wasKind m_wasFigure m_letters m_row m_refused j17.2.1 m_counted m_few)) hf (fun j17 hf => ?_) (fun hj hf => ?_)
      · refine s_istore_n (lv1 := [(2, .int j17.1), (0, .ref (ad 0))]) C 90 2 rfl dX6_readsStatement_89 rfl (Nat.le_of_ble_eq_true rfl) rfl ?_
        refine s_goto C 157 dX6_readsStatement_90 rfl ?_
        refine s_iload_n C 158 0 rfl dX6_readsStatement_157 rfl ?_
        refine s_if_eq C 170 161 rfl dX6_readsStatement_158 rfl (fun hc25 => ?_) (fun hc25 => ?_)
        · replace hf := ite_t hc25 hf
          refine s_iconst C 171 rfl dX6_readsStatement_170 ic_0 ?_
          obtain rfl := Option.some.inj hf
          exact s_zret C (fun i => i) hr hlk (Or.inl rfl) rfl rfl dX6_readsStatement_171
        · replace hf := ite_f hc25 hf
          refine s_aload_n C 162 1 rfl dX6_readsStatement_161 rfl ?_
          obtain ⟨r22, q23, hf⟩ := bn_s hf
          refine s_callW (T := TX6) (N := 26) (ci := 5) (q0 := 0) (rest := []) C 165 (c_X6_here l D cI adK adV ad m_left m_bites m_many m_imageLeft m_imageBites m_imageMany m_wasLeft m_wasBites m_wasMany m_hasImage m_letterMany m_rowMany j17.2.2 m_seed m_kind m_figure m_imageKind m_imageFigure m_wasKind m_wasFigure m_letters m_row m_refused j17.2.1 m_counted m_few r22 q23) (gV uu1086 uu1088 uu1573 uu6 uu1089) hd_X6_here rfl ⟨rfl, rfl⟩ ⟨Nat.le_of_ble_eq_true rfl, Nat.le_of_ble_eq_true rfl⟩ ⟨Nat.le_of_ble_eq_true rfl, Nat.le_of_ble_eq_true rfl⟩ rfl rfl rfl (Nat.le_of_ble_eq_true rfl) rfl dX6_readsStatement_162 (fun _ => ?_)
          refine s_bipush C 167 rfl dX6_readsStatement_165 bp_59 ?_
          refine s_icmp_eq C 172 170 rfl dX6_readsStatement_167 rfl (fun hc24 => ?_) (fun hc24 => ?_)
          · replace hf := ite_t hc24 hf
            refine s_aload_n C 173 1 rfl dX6_readsStatement_172 rfl ?_
            refine s_dup C 174 rfl dX6_readsStatement_173 rfl ?_
            refine s_get (C1 := RX6) (T := TX6) (N := 26) (ci := 5) C 177 0 21 uX6 rfl rfl (Nat.le_of_ble_eq_true rfl) uu1028 rfl rfl rfl dX6_readsStatement_174 ?_
            refine s_iconst C 178 rfl dX6_readsStatement_177 ic_1 ?_
            refine s_iadd C 179 rfl dX6_readsStatement_178 ?_
            refine s_put (C1 := RX6) (T := TX6) (N := 26) (ci := 5) (ty := tyX6 21) (ws1 := (wM ad cI m_left m_bites m_many m_imageLeft m_imageBites m_imageMany m_wasLeft m_wasBites m_wasMany m_hasImage m_letterMany m_rowMany (j17.2.2 + (1 : Int32)) m_seed m_kind m_figure m_imageKind m_imageFigure m_wasKind m_wasFigure m_letters m_row m_refused j17.2.1 m_counted m_few)) C 182 0 21 uX6 tyX6 tyX6_ok nmX6 rfl rfl (Nat.le_of_ble_eq_true rfl) uu1028 rfl rfl (tyX6_ok 21 (Nat.le_of_ble_eq_true rfl)) ⟨rfl, rfl⟩ (Nat.le_of_ble_eq_true rfl) rfl rfl dX6_readsStatement_179 ?_
            refine s_iconst C 183 rfl dX6_readsStatement_182 ic_1 ?_
            obtain rfl := Option.some.inj hf
            exact s_zret C (fun i => i) hr hlk (Or.inr rfl) rfl rfl dX6_readsStatement_183
          · replace hf := ite_f hc24 hf
            refine s_iconst C 171 rfl dX6_readsStatement_170 ic_0 ?_
            obtain rfl := Option.some.inj hf
            exact s_zret C (fun i => i) hr hlk (Or.inl rfl) rfl rfl dX6_readsStatement_171
      · refine s_if_eq C 88 75 rfl dX6_readsStatement_72 rfl (fun hc21 => ?_) (fun hc21 => ?_)
        · replace hf := bn_t hc21 hf
          refine s_iconst C 89 rfl dX6_readsStatement_88 ic_0 ?_
          replace hf := bn_i hf
          exact s_lv [1] rfl (hj (((0 : Int32), r15.2.2, r15.2.1) : Int32 × (Nat → Int32) × Int32) hf)
        · replace hf := bn_f hc21 hf
          refine s_aload_n C 76 1 rfl dX6_readsStatement_75 rfl ?_
          refine s_iconst C 77 rfl dX6_readsStatement_76 ic_1 ?_
          refine s_iconst C 78 rfl dX6_readsStatement_77 ic_1 ?_
          obtain ⟨r18, q19, hf⟩ := bn_b hf
          refine s_callW (T := TX6) (N := 26) (ci := 5) (q0 := 0) (rest := []) C 81 (c_X6_readsNumber l D cI adK adV ad m_left m_bites m_many m_imageLeft m_imageBites m_imageMany m_wasLeft m_wasBites m_wasMany m_hasImage m_letterMany m_rowMany r15.2.1 m_seed m_kind m_figure m_imageKind m_imageFigure m_wasKind m_wasFigure m_letters m_row m_refused r15.2.2 m_counted m_few (1 : Int32) (1 : Int32) r18 q19) (gV uu1101 uu1103 uu1575 uu6 uu1104) hd_X6_readsNumber rfl ⟨rfl, rfl⟩ ⟨Nat.le_of_ble_eq_true rfl, Nat.le_of_ble_eq_true rfl⟩ ⟨Nat.le_of_ble_eq_true rfl, Nat.le_of_ble_eq_true rfl⟩ rfl rfl rfl (Nat.le_of_ble_eq_true rfl) rfl dX6_readsStatement_78 (fun _ => ?_)
          refine s_if_eq C 88 84 rfl dX6_readsStatement_81 rfl (fun hc20 => ?_) (fun hc20 => ?_)
          · replace hf := bn_t hc20 hf
            refine s_iconst C 89 rfl dX6_readsStatement_88 ic_0 ?_
            replace hf := bn_i hf
            exact s_lv [1] rfl (hj (((0 : Int32), r18.2.2, r18.2.1) : Int32 × (Nat → Int32) × Int32) hf)
          · replace hf := bn_f hc20 hf
            refine s_iconst C 85 rfl dX6_readsStatement_84 ic_1 ?_
            refine s_goto C 89 dX6_readsStatement_85 rfl ?_
            replace hf := bn_i hf
            exact s_lv [1] rfl (hj (((1 : Int32), r18.2.2, r18.2.1) : Int32 × (Nat → Int32) × Int32) hf)
    · replace hf := ite_f hc26 hf
      by_cases hc33 : r1 = (108 : Int32)
      · replace hf := ite_t hc33 hf
        refine s_lookup (off := 104) C 120 dX6_readsStatement_16 rfl (by rw [hc33]; rfl) rfl ?_
        refine s_aload_n C 121 1 rfl dX6_readsStatement_120 rfl ?_
        refine s_iconst C 122 rfl dX6_readsStatement_121 ic_0 ?_
        refine s_iconst C 123 rfl dX6_readsStatement_122 ic_2 ?_
        obtain ⟨r27, q28, hf⟩ := bn_s hf
        refine s_callW (T := TX6) (N := 26) (ci := 5) (q0 := 0) (rest := []) C 126 (c_X6_readsNumber l D cI adK adV ad m_left m_bites m_many m_imageLeft m_imageBites m_imageMany m_wasLeft m_wasBites m_wasMany m_hasImage m_letterMany m_rowMany (m_place + (1 : Int32)) m_seed m_kind m_figure m_imageKind m_imageFigure m_wasKind m_wasFigure m_letters m_row m_refused m_numbers m_counted m_few (0 : Int32) (2 : Int32) r27 q28) (gV uu1101 uu1103 uu1575 uu6 uu1104) hd_X6_readsNumber rfl ⟨rfl, rfl⟩ ⟨Nat.le_of_ble_eq_true rfl, Nat.le_of_ble_eq_true rfl⟩ ⟨Nat.le_of_ble_eq_true rfl, Nat.le_of_ble_eq_true rfl⟩ rfl rfl rfl (Nat.le_of_ble_eq_true rfl) rfl dX6_readsStatement_123 (fun _ => ?_)
        refine s_istore_n (lv1 := [(2, .int r27.1), (1, .int r1), (0, .ref (ad 0))]) C 127 2 rfl dX6_readsStatement_126 rfl (Nat.le_of_ble_eq_true rfl) rfl ?_
        refine s_goto C 157 dX6_readsStatement_127 rfl ?_
        refine s_iload_n C 158 0 rfl dX6_readsStatement_157 rfl ?_
        refine s_if_eq C 170 161 rfl dX6_readsStatement_158 rfl (fun hc32 => ?_) (fun hc32 => ?_)
        · replace hf := ite_t hc32 hf
          refine s_iconst C 171 rfl dX6_readsStatement_170 ic_0 ?_
          obtain rfl := Option.some.inj hf
          exact s_zret C (fun i => i) hr hlk (Or.inl rfl) rfl rfl dX6_readsStatement_171
        · replace hf := ite_f hc32 hf
          refine s_aload_n C 162 2 rfl dX6_readsStatement_161 rfl ?_
          obtain ⟨r29, q30, hf⟩ := bn_s hf
          refine s_callW (T := TX6) (N := 26) (ci := 5) (q0 := 0) (rest := []) C 165 (c_X6_here l D cI adK adV ad m_left m_bites m_many m_imageLeft m_imageBites m_imageMany m_wasLeft m_wasBites m_wasMany m_hasImage m_letterMany m_rowMany r27.2.1 m_seed m_kind m_figure m_imageKind m_imageFigure m_wasKind m_wasFigure m_letters m_row m_refused r27.2.2 m_counted m_few r29 q30) (gV uu1086 uu1088 uu1573 uu6 uu1089) hd_X6_here rfl ⟨rfl, rfl⟩ ⟨Nat.le_of_ble_eq_true rfl, Nat.le_of_ble_eq_true rfl⟩ ⟨Nat.le_of_ble_eq_true rfl, Nat.le_of_ble_eq_true rfl⟩ rfl rfl rfl (Nat.le_of_ble_eq_true rfl) rfl dX6_readsStatement_162 (fun _ => ?_)
          refine s_bipush C 167 rfl dX6_readsStatement_165 bp_59 ?_
          refine s_icmp_eq C 172 170 rfl dX6_readsStatement_167 rfl (fun hc31 => ?_) (fun hc31 => ?_)
          · replace hf := ite_t hc31 hf
            refine s_aload_n C 173 2 rfl dX6_readsStatement_172 rfl ?_
            refine s_dup C 174 rfl dX6_readsStatement_173 rfl ?_
            refine s_get (C1 := RX6) (T := TX6) (N := 26) (ci := 5) C 177 0 21 uX6 rfl rfl (Nat.le_of_ble_eq_true rfl) uu1028 rfl rfl rfl dX6_readsStatement_174 ?_
            refine s_iconst C 178 rfl dX6_readsStatement_177 ic_1 ?_
            refine s_iadd C 179 rfl dX6_readsStatement_178 ?_
            refine s_put (C1 := RX6) (T := TX6) (N := 26) (ci := 5) (ty := tyX6 21) (ws1 := (wM ad cI m_left m_bites m_many m_imageLeft m_imageBites m_imageMany m_wasLeft m_wasBites m_wasMany m_hasImage m_letterMany m_rowMany (r27.2.1 + (1 : Int32)) m_seed m_kind m_figure m_imageKind m_imageFigure m_wasKind m_wasFigure m_letters m_row m_refused r27.2.2 m_counted m_few)) C 182 0 21 uX6 tyX6 tyX6_ok nmX6 rfl rfl (Nat.le_of_ble_eq_true rfl) uu1028 rfl rfl (tyX6_ok 21 (Nat.le_of_ble_eq_true rfl)) ⟨rfl, rfl⟩ (Nat.le_of_ble_eq_true rfl) rfl rfl dX6_readsStatement_179 ?_
            refine s_iconst C 183 rfl dX6_readsStatement_182 ic_1 ?_
            obtain rfl := Option.some.inj hf
            exact s_zret C (fun i => i) hr hlk (Or.inr rfl) rfl rfl dX6_readsStatement_183
          · replace hf := ite_f hc31 hf
            refine s_iconst C 171 rfl dX6_readsStatement_170 ic_0 ?_
            obtain rfl := Option.some.inj hf
            exact s_zret C (fun i => i) hr hlk (Or.inl rfl) rfl rfl dX6_readsStatement_171
      · replace hf := ite_f hc33 hf
        by_cases hc38 : r1 = (110 : Int32)
        · replace hf := ite_t hc38 hf
          refine s_lookup (off := 124) C 140 dX6_readsStatement_16 rfl (by rw [hc38]; rfl) rfl ?_
          refine s_iconst C 141 rfl dX6_readsStatement_140 ic_1 ?_
          refine s_istore_n (lv1 := [(2, .int (1 : Int32)), (1, .int r1), (0, .ref (ad 0))]) C 142 2 rfl dX6_readsStatement_141 rfl (Nat.le_of_ble_eq_true rfl) rfl ?_
          refine s_goto C 157 dX6_readsStatement_142 rfl ?_
          refine s_iload_n C 158 0 rfl dX6_readsStatement_157 rfl ?_
          refine s_if_eq C 170 161 rfl dX6_readsStatement_158 rfl (fun hc37 => ?_) (fun hc37 => ?_)
          · replace hf := ite_t hc37 hf
            refine s_iconst C 171 rfl dX6_readsStatement_170 ic_0 ?_
            obtain rfl := Option.some.inj hf
            exact s_zret C (fun i => i) hr hlk (Or.inl rfl) rfl rfl dX6_readsStatement_171
          · replace hf := ite_f hc37 hf
            refine s_aload_n C 162 2 rfl dX6_readsStatement_161 rfl ?_
            obtain ⟨r34, q35, hf⟩ := bn_s hf
            refine s_callW (T := TX6) (N := 26) (ci := 5) (q0 := 0) (rest := []) C 165 (c_X6_here l D cI adK adV ad m_left m_bites m_many m_imageLeft m_imageBites m_imageMany m_wasLeft m_wasBites m_wasMany m_hasImage m_letterMany m_rowMany (m_place + (1 : Int32)) m_seed m_kind m_figure m_imageKind m_imageFigure m_wasKind m_wasFigure m_letters m_row m_refused m_numbers m_counted m_few r34 q35) (gV uu1086 uu1088 uu1573 uu6 uu1089) hd_X6_here rfl ⟨rfl, rfl⟩ ⟨Nat.le_of_ble_eq_true rfl, Nat.le_of_ble_eq_true rfl⟩ ⟨Nat.le_of_ble_eq_true rfl, Nat.le_of_ble_eq_true rfl⟩ rfl rfl rfl (Nat.le_of_ble_eq_true rfl) rfl dX6_readsStatement_162 (fun _ => ?_)
            refine s_bipush C 167 rfl dX6_readsStatement_165 bp_59 ?_
            refine s_icmp_eq C 172 170 rfl dX6_readsStatement_167 rfl (fun hc36 => ?_) (fun hc36 => ?_)
            · replace hf := ite_t hc36 hf
              refine s_aload_n C 173 2 rfl dX6_readsStatement_172 rfl ?_
              refine s_dup C 174 rfl dX6_readsStatement_173 rfl ?_
              refine s_get (C1 := RX6) (T := TX6) (N := 26) (ci := 5) C 177 0 21 uX6 rfl rfl (Nat.le_of_ble_eq_true rfl) uu1028 rfl rfl rfl dX6_readsStatement_174 ?_
              refine s_iconst C 178 rfl dX6_readsStatement_177 ic_1 ?_
              refine s_iadd C 179 rfl dX6_readsStatement_178 ?_
              refine s_put (C1 := RX6) (T := TX6) (N := 26) (ci := 5) (ty := tyX6 21) (ws1 := (wM ad cI m_left m_bites m_many m_imageLeft m_imageBites m_imageMany m_wasLeft m_wasBites m_wasMany m_hasImage m_letterMany m_rowMany ((m_place + (1 : Int32)) + (1 : Int32)) m_seed m_kind m_figure m_imageKind m_imageFigure m_wasKind m_wasFigure m_letters m_row m_refused m_numbers m_counted m_few)) C 182 0 21 uX6 tyX6 tyX6_ok nmX6 rfl rfl (Nat.le_of_ble_eq_true rfl) uu1028 rfl rfl (tyX6_ok 21 (Nat.le_of_ble_eq_true rfl)) ⟨rfl, rfl⟩ (Nat.le_of_ble_eq_true rfl) rfl rfl dX6_readsStatement_179 ?_
              refine s_iconst C 183 rfl dX6_readsStatement_182 ic_1 ?_
              obtain rfl := Option.some.inj hf
              exact s_zret C (fun i => i) hr hlk (Or.inr rfl) rfl rfl dX6_readsStatement_183
            · replace hf := ite_f hc36 hf
              refine s_iconst C 171 rfl dX6_readsStatement_170 ic_0 ?_
              obtain rfl := Option.some.inj hf
              exact s_zret C (fun i => i) hr hlk (Or.inl rfl) rfl rfl dX6_readsStatement_171
        · replace hf := ite_f hc38 hf
          by_cases hc45 : r1 = (114 : Int32)
          · replace hf := ite_t hc45 hf
            refine s_lookup (off := 114) C 130 dX6_readsStatement_16 rfl (by rw [hc45]; rfl) rfl ?_
            refine s_aload_n C 131 1 rfl dX6_readsStatement_130 rfl ?_
            refine s_iconst C 132 rfl dX6_readsStatement_131 ic_0 ?_
            refine s_iconst C 133 rfl dX6_readsStatement_132 ic_1 ?_
            obtain ⟨r39, q40, hf⟩ := bn_s hf
            refine s_callW (T := TX6) (N := 26) (ci := 5) (q0 := 0) (rest := []) C 136 (c_X6_readsNumber l D cI adK adV ad m_left m_bites m_many m_imageLeft m_imageBites m_imageMany m_wasLeft m_wasBites m_wasMany m_hasImage m_letterMany m_rowMany (m_place + (1 : Int32)) m_seed m_kind m_figure m_imageKind m_imageFigure m_wasKind m_wasFigure m_letters m_row m_refused m_numbers m_counted m_few (0 : Int32) (1 : Int32) r39 q40) (gV uu1101 uu1103 uu1575 uu6 uu1104) hd_X6_readsNumber rfl ⟨rfl, rfl⟩ ⟨Nat.le_of_ble_eq_true rfl, Nat.le_of_ble_eq_true rfl⟩ ⟨Nat.le_of_ble_eq_true rfl, Nat.le_of_ble_eq_true rfl⟩ rfl rfl rfl (Nat.le_of_ble_eq_true rfl) rfl dX6_readsStatement_133 (fun _ => ?_)
            refine s_istore_n (lv1 := [(2, .int r39.1), (1, .int r1), (0, .ref (ad 0))]) C 137 2 rfl dX6_readsStatement_136 rfl (Nat.le_of_ble_eq_true rfl) rfl ?_
            refine s_goto C 157 dX6_readsStatement_137 rfl ?_
            refine s_iload_n C 158 0 rfl dX6_readsStatement_157 rfl ?_
            refine s_if_eq C 170 161 rfl dX6_readsStatement_158 rfl (fun hc44 => ?_) (fun hc44 => ?_)
            · replace hf := ite_t hc44 hf
              refine s_iconst C 171 rfl dX6_readsStatement_170 ic_0 ?_
              obtain rfl := Option.some.inj hf
              exact s_zret C (fun i => i) hr hlk (Or.inl rfl) rfl rfl dX6_readsStatement_171
            · replace hf := ite_f hc44 hf
              refine s_aload_n C 162 2 rfl dX6_readsStatement_161 rfl ?_
              obtain ⟨r41, q42, hf⟩ := bn_s hf
              refine s_callW (T := TX6) (N := 26) (ci := 5) (q0 := 0) (rest := []) C 165 (c_X6_here l D cI adK adV ad m_left m_bites m_many m_imageLeft m_imageBites m_imageMany m_wasLeft m_wasBites m_wasMany m_hasImage m_letterMany m_rowMany r39.2.1 m_seed m_kind m_figure m_imageKind m_imageFigure m_wasKind m_wasFigure m_letters m_row m_refused r39.2.2 m_counted m_few r41 q42) (gV uu1086 uu1088 uu1573 uu6 uu1089) hd_X6_here rfl ⟨rfl, rfl⟩ ⟨Nat.le_of_ble_eq_true rfl, Nat.le_of_ble_eq_true rfl⟩ ⟨Nat.le_of_ble_eq_true rfl, Nat.le_of_ble_eq_true rfl⟩ rfl rfl rfl (Nat.le_of_ble_eq_true rfl) rfl dX6_readsStatement_162 (fun _ => ?_)
              refine s_bipush C 167 rfl dX6_readsStatement_165 bp_59 ?_
              refine s_icmp_eq C 172 170 rfl dX6_readsStatement_167 rfl (fun hc43 => ?_) (fun hc43 => ?_)
              · replace hf := ite_t hc43 hf
                refine s_aload_n C 173 2 rfl dX6_readsStatement_172 rfl ?_
                refine s_dup C 174 rfl dX6_readsStatement_173 rfl ?_
                refine s_get (C1 := RX6) (T := TX6) (N := 26) (ci := 5) C 177 0 21 uX6 rfl rfl (Nat.le_of_ble_eq_true rfl) uu1028 rfl rfl rfl dX6_readsStatement_174 ?_
                refine s_iconst C 178 rfl dX6_readsStatement_177 ic_1 ?_
                refine s_iadd C 179 rfl dX6_readsStatement_178 ?_
                refine s_put (C1 := RX6) (T := TX6) (N := 26) (ci := 5) (ty := tyX6 21) (ws1 := (wM ad cI m_left m_bites m_many m_imageLeft m_imageBites m_imageMany m_wasLeft m_wasBites m_wasMany m_hasImage m_letterMany m_rowMany (r39.2.1 + (1 : Int32)) m_seed m_kind m_figure m_imageKind m_imageFigure m_wasKind m_wasFigure m_letters m_row m_refused r39.2.2 m_counted m_few)) C 182 0 21 uX6 tyX6 tyX6_ok nmX6 rfl rfl (Nat.le_of_ble_eq_true rfl) uu1028 rfl rfl (tyX6_ok 21 (Nat.le_of_ble_eq_true rfl)) ⟨rfl, rfl⟩ (Nat.le_of_ble_eq_true rfl) rfl rfl dX6_readsStatement_179 ?_
                refine s_iconst C 183 rfl dX6_readsStatement_182 ic_1 ?_
                obtain rfl := Option.some.inj hf
                exact s_zret C (fun i => i) hr hlk (Or.inr rfl) rfl rfl dX6_readsStatement_183
              · replace hf := ite_f hc43 hf
                refine s_iconst C 171 rfl dX6_readsStatement_170 ic_0 ?_
                obtain rfl := Option.some.inj hf
                exact s_zret C (fun i => i) hr hlk (Or.inl rfl) rfl rfl dX6_readsStatement_171
          · replace hf := ite_f hc45 hf
            refine s_lookup C 145 dX6_readsStatement_16 rfl (sw_off_X6_readsStatement_16 hc14 hc26 hc33 hc38 hc45) rfl ?_
            refine s_aload_n C 146 1 rfl dX6_readsStatement_145 rfl ?_
            refine s_dup C 147 rfl dX6_readsStatement_146 rfl ?_
            refine s_get (C1 := RX6) (T := TX6) (N := 26) (ci := 5) C 150 0 21 uX6 rfl rfl (Nat.le_of_ble_eq_true rfl) uu1028 rfl rfl rfl dX6_readsStatement_147 ?_
            refine s_iconst C 151 rfl dX6_readsStatement_150 ic_1 ?_
            refine s_isub C 152 rfl dX6_readsStatement_151 ?_
            refine s_put (C1 := RX6) (T := TX6) (N := 26) (ci := 5) (ty := tyX6 21) (ws1 := (wM ad cI m_left m_bites m_many m_imageLeft m_imageBites m_imageMany m_wasLeft m_wasBites m_wasMany m_hasImage m_letterMany m_rowMany ((m_place + (1 : Int32)) - (1 : Int32)) m_seed m_kind m_figure m_imageKind m_imageFigure m_wasKind m_wasFigure m_letters m_row m_refused m_numbers m_counted m_few)) C 155 0 21 uX6 tyX6 tyX6_ok nmX6 rfl rfl (Nat.le_of_ble_eq_true rfl) uu1028 rfl rfl (tyX6_ok 21 (Nat.le_of_ble_eq_true rfl)) ⟨rfl, rfl⟩ (Nat.le_of_ble_eq_true rfl) rfl rfl dX6_readsStatement_152 ?_
            refine s_iconst C 156 rfl dX6_readsStatement_155 ic_0 ?_
            obtain rfl := Option.some.inj hf
            exact s_zret C (fun i => i) hr hlk (Or.inl rfl) rfl rfl dX6_readsStatement_156


theorem hd_X6_bitesOff : yX6_bitesOff.cls = RX6 ∧ yX6_bitesOff.cls ≠ "java/lang/invoke/MethodHandle" ∧ yX6_bitesOff.cls ≠ "java/lang/invoke/VarHandle" ∧ (parseMethodDescriptor yX6_bitesOff.desc).map (fun d => d.parameters.length) = some 1 := by decide +kernel
set_option maxHeartbeats 4000000 in
set_option maxRecDepth 100000 in
theorem c_X6_bitesOff (l : Launch) (D : va_G) (cI : ClassId) (adK adV : Nat → Nat) (ad : Nat → Nat) (m_left : Int32) (m_bites : Int32) (m_many : Int32) (m_imageLeft : Int32) (m_imageBites : Int32) (m_imageMany : Int32) (m_wasLeft : Int32) (m_wasBites : Int32) (m_wasMany : Int32) (m_hasImage : Int32) (m_letterMany : Int32) (m_rowMany : Int32) (m_place : Int32) (m_seed : Int32) (m_kind : (Nat → Int32)) (m_figure : (Nat → Int32)) (m_imageKind : (Nat → Int32)) (m_imageFigure : (Nat → Int32)) (m_wasKind : (Nat → Int32)) (m_wasFigure : (Nat → Int32)) (m_letters : (Nat → Int32)) (m_row : (Nat → Int32)) (m_refused : (Nat → Int32)) (m_numbers : (Nat → Int32)) (m_counted : (Nat → Int32)) (m_few : (Nat → Int32)) (a1 : Int32) (o : Int32 × Int32) (hf : f_X6_bitesOff m_left m_bites a1 = some o) : Ct l D cI adK adV yX6_bitesOff (wy yX6_bitesOff cX6_bitesOff 2 none) { frames := 1, cells := 0, slots := 0, locals := 21 } 0 0 [.ref (ad 0), .int a1] (wM ad cI m_left m_bites m_many m_imageLeft m_imageBites m_imageMany m_wasLeft m_wasBites m_wasMany m_hasImage m_letterMany m_rowMany m_place m_seed m_kind m_figure m_imageKind m_imageFigure m_wasKind m_wasFigure m_letters m_row m_refused m_numbers m_counted m_few) (fun _ => (wM ad cI o.1 o.2 m_many m_imageLeft m_imageBites m_imageMany m_wasLeft m_wasBites m_wasMany m_hasImage m_letterMany m_rowMany m_place m_seed m_kind m_figure m_imageKind m_imageFigure m_wasKind m_wasFigure m_letters m_row m_refused m_numbers m_counted m_few)) (none) := by
  refine Ct.of (cc := cX6_bitesOff) (nL := 2) (ret := none) (own := RX6) (by decide) (Nat.le_of_ble_eq_true rfl) rfl ?_
  intro p e s m args below meth c A C hr hlk hnm
  refine s_lv (lv1 := [(0, .ref (ad 0)), (1, .int a1)]) [0, 1] rfl ?_
  unfold f_X6_bitesOff at hf
  refine s_aload_n C 1 0 rfl dX6_bitesOff_0 rfl ?_
  refine s_dup C 2 rfl dX6_bitesOff_1 rfl ?_
  refine s_get (C1 := RX6) (T := TX6) (N := 26) (ci := 5) C 5 0 0 uX6 rfl rfl (Nat.le_of_ble_eq_true rfl) uu986 rfl rfl rfl dX6_bitesOff_2 ?_
  refine s_iload_n C 6 1 rfl dX6_bitesOff_5 rfl ?_
  refine s_iconst C 7 rfl dX6_bitesOff_6 ic_m1 ?_
  refine s_ixor C 8 rfl dX6_bitesOff_7 ?_
  refine s_iand C 9 rfl dX6_bitesOff_8 ?_
  refine s_put (C1 := RX6) (T := TX6) (N := 26) (ci := 5) (ty := tyX6 0) (ws1 := (wM ad cI (m_left &&& (a1 ^^^ (-1 : Int32))) m_bites m_many m_imageLeft m_imageBites m_imageMany m_wasLeft m_wasBites m_wasMany m_hasImage m_letterMany m_rowMany m_place m_seed m_kind m_figure m_imageKind m_imageFigure m_wasKind m_wasFigure m_letters m_row m_refused m_numbers m_counted m_few)) C 12 0 0 uX6 tyX6 tyX6_ok nmX6 rfl rfl (Nat.le_of_ble_eq_true rfl) uu986 rfl rfl (tyX6_ok 0 (Nat.le_of_ble_eq_true rfl)) ⟨rfl, rfl⟩ (Nat.le_of_ble_eq_true rfl) rfl rfl dX6_bitesOff_9 ?_
  refine s_aload_n C 13 0 rfl dX6_bitesOff_12 rfl ?_
  refine s_sipush C 16 rfl dX6_bitesOff_13 sp_999 ?_
  refine s_aload_n C 17 0 rfl dX6_bitesOff_16 rfl ?_
  refine s_get (C1 := RX6) (T := TX6) (N := 26) (ci := 5) C 20 0 1 uX6 rfl rfl (Nat.le_of_ble_eq_true rfl) uu988 rfl rfl rfl dX6_bitesOff_17 ?_
  refine s_iconst C 21 rfl dX6_bitesOff_20 ic_1 ?_
  refine s_iadd C 22 rfl dX6_bitesOff_21 ?_
  obtain ⟨r1, q2, hf⟩ := bn_s hf
  refine s_callS0 (host := "") (rest := [.ref (ad 0)]) C 25 (c_X6_least l D cI adK adV (999 : Int32) (m_bites + (1 : Int32)) r1 q2) (gS uu1141 uu1143 uu6 uu1144) hd_X6_least rfl ⟨rfl, rfl⟩ ⟨Nat.le_of_ble_eq_true rfl, Nat.le_of_ble_eq_true rfl⟩ ⟨Nat.le_of_ble_eq_true rfl, Nat.le_of_ble_eq_true rfl⟩ rfl (Nat.le_of_ble_eq_true rfl) rfl dX6_bitesOff_22 ?_
  refine s_put (C1 := RX6) (T := TX6) (N := 26) (ci := 5) (ty := tyX6 1) (ws1 := (wM ad cI (m_left &&& (a1 ^^^ (-1 : Int32))) r1 m_many m_imageLeft m_imageBites m_imageMany m_wasLeft m_wasBites m_wasMany m_hasImage m_letterMany m_rowMany m_place m_seed m_kind m_figure m_imageKind m_imageFigure m_wasKind m_wasFigure m_letters m_row m_refused m_numbers m_counted m_few)) C 28 0 1 uX6 tyX6 tyX6_ok nmX6 rfl rfl (Nat.le_of_ble_eq_true rfl) uu988 rfl rfl (tyX6_ok 1 (Nat.le_of_ble_eq_true rfl)) ⟨rfl, rfl⟩ (Nat.le_of_ble_eq_true rfl) rfl rfl dX6_bitesOff_25 ?_
  obtain rfl := Option.some.inj hf
  exact s_vret C (fun i => i) hr hlk rfl rfl dX6_bitesOff_28


theorem hd_X6_allAgain : yX6_allAgain.cls = RX6 ∧ yX6_allAgain.cls ≠ "java/lang/invoke/MethodHandle" ∧ yX6_allAgain.cls ≠ "java/lang/invoke/VarHandle" ∧ (parseMethodDescriptor yX6_allAgain.desc).map (fun d => d.parameters.length) = some 0 := by decide +kernel
set_option maxHeartbeats 4000000 in
set_option maxRecDepth 100000 in
theorem c_X6_allAgain (l : Launch) (D : va_G) (cI : ClassId) (adK adV : Nat → Nat) (ad : Nat → Nat) (m_left : Int32) (m_bites : Int32) (m_many : Int32) (m_imageLeft : Int32) (m_imageBites : Int32) (m_imageMany : Int32) (m_wasLeft : Int32) (m_wasBites : Int32) (m_wasMany : Int32) (m_hasImage : Int32) (m_letterMany : Int32) (m_rowMany : Int32) (m_place : Int32) (m_seed : Int32) (m_kind : (Nat → Int32)) (m_figure : (Nat → Int32)) (m_imageKind : (Nat → Int32)) (m_imageFigure : (Nat → Int32)) (m_wasKind : (Nat → Int32)) (m_wasFigure : (Nat → Int32)) (m_letters : (Nat → Int32)) (m_row : (Nat → Int32)) (m_refused : (Nat → Int32)) (m_numbers : (Nat → Int32)) (m_counted : (Nat → Int32)) (m_few : (Nat → Int32))  (o : Int32 × Int32) (hf : f_X6_allAgain  = some o) : Ct l D cI adK adV yX6_allAgain (wy yX6_allAgain cX6_allAgain 1 none) { frames := 0, cells := 0, slots := 0, locals := 0 } 0 0 [.ref (ad 0)] (wM ad cI m_left m_bites m_many m_imageLeft m_imageBites m_imageMany m_wasLeft m_wasBites m_wasMany m_hasImage m_letterMany m_rowMany m_place m_seed m_kind m_figure m_imageKind m_imageFigure m_wasKind m_wasFigure m_letters m_row m_refused m_numbers m_counted m_few) (fun _ => (wM ad cI o.1 o.2 m_many m_imageLeft m_imageBites m_imageMany m_wasLeft m_wasBites m_wasMany m_hasImage m_letterMany m_rowMany m_place m_seed m_kind m_figure m_imageKind m_imageFigure m_wasKind m_wasFigure m_letters m_row m_refused m_numbers m_counted m_few)) (none) := by
  refine Ct.of (cc := cX6_allAgain) (nL := 1) (ret := none) (own := RX6) (by decide) (Nat.le_of_ble_eq_true rfl) rfl ?_
  intro p e s m args below meth c A C hr hlk hnm
  refine s_lv (lv1 := [(0, .ref (ad 0))]) [0] rfl ?_
  unfold f_X6_allAgain at hf
  refine s_aload_n C 1 0 rfl dX6_allAgain_0 rfl ?_
  refine s_ldc C 3 rfl dX6_allAgain_1 uu984 ?_
  refine s_put (C1 := RX6) (T := TX6) (N := 26) (ci := 5) (ty := tyX6 0) (ws1 := (wM ad cI (33554431 : Int32) m_bites m_many m_imageLeft m_imageBites m_imageMany m_wasLeft m_wasBites m_wasMany m_hasImage m_letterMany m_rowMany m_place m_seed m_kind m_figure m_imageKind m_imageFigure m_wasKind m_wasFigure m_letters m_row m_refused m_numbers m_counted m_few)) C 6 0 0 uX6 tyX6 tyX6_ok nmX6 rfl rfl (Nat.le_of_ble_eq_true rfl) uu986 rfl rfl (tyX6_ok 0 (Nat.le_of_ble_eq_true rfl)) ⟨rfl, rfl⟩ (Nat.le_of_ble_eq_true rfl) rfl rfl dX6_allAgain_3 ?_
  refine s_aload_n C 7 0 rfl dX6_allAgain_6 rfl ?_
  refine s_iconst C 8 rfl dX6_allAgain_7 ic_0 ?_
  refine s_put (C1 := RX6) (T := TX6) (N := 26) (ci := 5) (ty := tyX6 1) (ws1 := (wM ad cI (33554431 : Int32) (0 : Int32) m_many m_imageLeft m_imageBites m_imageMany m_wasLeft m_wasBites m_wasMany m_hasImage m_letterMany m_rowMany m_place m_seed m_kind m_figure m_imageKind m_imageFigure m_wasKind m_wasFigure m_letters m_row m_refused m_numbers m_counted m_few)) C 11 0 1 uX6 tyX6 tyX6_ok nmX6 rfl rfl (Nat.le_of_ble_eq_true rfl) uu988 rfl rfl (tyX6_ok 1 (Nat.le_of_ble_eq_true rfl)) ⟨rfl, rfl⟩ (Nat.le_of_ble_eq_true rfl) rfl rfl dX6_allAgain_8 ?_
  obtain rfl := Option.some.inj hf
  exact s_vret C (fun i => i) hr hlk rfl rfl dX6_allAgain_11

theorem sw_off_X6_isDone_15 {x : Int32} (h0 : ¬ x = (98 : Int32)) (h1 : ¬ x = (104 : Int32)) (h2 : ¬ x = (108 : Int32)) (h3 : ¬ x = (114 : Int32)) : Op.lookupswitch.offset ([(98, 83), (104, 41), (108, 120), (114, 143)] : List (Int × Int)) (168) x.toInt = 168 := by
  simp only [Op.lookupswitch.offset]
  rw [if_neg (fun q => ne_toInt h0 q.symm)]
  rw [if_neg (fun q => ne_toInt h1 q.symm)]
  rw [if_neg (fun q => ne_toInt h2 q.symm)]
  rw [if_neg (fun q => ne_toInt h3 q.symm)]

theorem hd_X6_isDone : yX6_isDone.cls = RX6 ∧ yX6_isDone.cls ≠ "java/lang/invoke/MethodHandle" ∧ yX6_isDone.cls ≠ "java/lang/invoke/VarHandle" ∧ (parseMethodDescriptor yX6_isDone.desc).map (fun d => d.parameters.length) = some 1 := by decide +kernel
set_option maxHeartbeats 4000000 in
set_option maxRecDepth 100000 in
theorem c_X6_isDone (l : Launch) (D : va_G) (cI : ClassId) (adK adV : Nat → Nat) (ad : Nat → Nat) (m_left : Int32) (m_bites : Int32) (m_many : Int32) (m_imageLeft : Int32) (m_imageBites : Int32) (m_imageMany : Int32) (m_wasLeft : Int32) (m_wasBites : Int32) (m_wasMany : Int32) (m_hasImage : Int32) (m_letterMany : Int32) (m_rowMany : Int32) (m_place : Int32) (m_seed : Int32) (m_kind : (Nat → Int32)) (m_figure : (Nat → Int32)) (m_imageKind : (Nat → Int32)) (m_imageFigure : (Nat → Int32)) (m_wasKind : (Nat → Int32)) (m_wasFigure : (Nat → Int32)) (m_letters : (Nat → Int32)) (m_row : (Nat → Int32)) (m_refused : (Nat → Int32)) (m_numbers : (Nat → Int32)) (m_counted : (Nat → Int32)) (m_few : (Nat → Int32)) (a1 : Int32) (o : Int32 × Int32 × Int32 × Int32 × (Nat → Int32) × (Nat → Int32)) (hf : f_X6_isDone m_left m_bites m_many m_kind m_figure m_numbers a1 = some o) : Ct l D cI adK adV yX6_isDone (wy yX6_isDone cX6_isDone 4 (some .boolean)) { frames := 2, cells := 0, slots := 0, locals := 46 } 0 0 [.ref (ad 0), .int a1] (wM ad cI m_left m_bites m_many m_imageLeft m_imageBites m_imageMany m_wasLeft m_wasBites m_wasMany m_hasImage m_letterMany m_rowMany m_place m_seed m_kind m_figure m_imageKind m_imageFigure m_wasKind m_wasFigure m_letters m_row m_refused m_numbers m_counted m_few) (fun _ => (wM ad cI o.2.1 o.2.2.1 o.2.2.2.1 m_imageLeft m_imageBites m_imageMany m_wasLeft m_wasBites m_wasMany m_hasImage m_letterMany m_rowMany m_place m_seed o.2.2.2.2.1 o.2.2.2.2.2 m_imageKind m_imageFigure m_wasKind m_wasFigure m_letters m_row m_refused m_numbers m_counted m_few)) (some (.int o.1)) := by
  refine Ct.of (cc := cX6_isDone) (nL := 4) (ret := (some .boolean)) (own := RX6) (by decide) (Nat.le_of_ble_eq_true rfl) rfl ?_
  intro p e s m args below meth c A C hr hlk hnm
  refine s_lv (lv1 := [(0, .ref (ad 0)), (1, .int a1)]) [0, 1] rfl ?_
  unfold f_X6_isDone at hf
  refine s_aload_n C 1 0 rfl dX6_isDone_0 rfl ?_
  refine s_get (C1 := RX6) (T := TX6) (N := 26) (ci := 5) C 4 0 22 uX6 rfl rfl (Nat.le_of_ble_eq_true rfl) uu1030 rfl rfl rfl dX6_isDone_1 ?_
  refine s_iconst C 5 rfl dX6_isDone_4 ic_0 ?_
  obtain ⟨h1, hf⟩ := ck_in hf
  refine s_iald C 6 10 rfl h1 rfl dX6_isDone_5 ?_
  refine s_istore_n (lv1 := [(2, .int (m_numbers (0 : Int32).toNatClampNeg)), (0, .ref (ad 0)), (1, .int a1)]) C 7 2 rfl dX6_isDone_6 rfl (Nat.le_of_ble_eq_true rfl) rfl ?_
  refine s_aload_n C 8 1 rfl dX6_isDone_7 rfl ?_
  refine s_get (C1 := RX6) (T := TX6) (N := 26) (ci := 5) C 11 0 22 uX6 rfl rfl (Nat.le_of_ble_eq_true rfl) uu1030 rfl rfl rfl dX6_isDone_8 ?_
  refine s_iconst C 12 rfl dX6_isDone_11 ic_1 ?_
  obtain ⟨h2, hf⟩ := ck_in hf
  refine s_iald C 13 10 rfl h2 rfl dX6_isDone_12 ?_
  refine s_istore_n (lv1 := [(3, .int (m_numbers (1 : Int32).toNatClampNeg)), (2, .int (m_numbers (0 : Int32).toNatClampNeg)), (0, .ref (ad 0)), (1, .int a1)]) C 14 3 rfl dX6_isDone_13 rfl (Nat.le_of_ble_eq_true rfl) rfl ?_
  refine s_iload_n C 15 3 rfl dX6_isDone_14 rfl ?_
  by_cases hc14 : a1 = (98 : Int32)
  · replace hf := ite_t hc14 hf
    refine s_lookup (off := 83) C 98 dX6_isDone_15 rfl (by rw [hc14]; rfl) rfl ?_
    refine s_iload_n C 99 1 rfl dX6_isDone_98 rfl ?_
    refine s_iconst C 100 rfl dX6_isDone_99 ic_4 ?_
    refine s_icmp_ge C 122 103 rfl dX6_isDone_100 rfl (fun hc13 => ?_) (fun hc13 => ?_)
    · replace hf := ite_t hc13 hf
      refine s_iconst C 123 rfl dX6_isDone_122 ic_0 ?_
      obtain rfl := Option.some.inj hf
      exact s_zret C (fun i => i) hr hlk (Or.inl rfl) rfl rfl dX6_isDone_123
    · replace hf := ite_f hc13 hf
      refine s_iload_n C 104 0 rfl dX6_isDone_103 rfl ?_
      obtain ⟨r3, q4, hf⟩ := bn_s hf
      refine s_callS0 (host := "") (rest := []) C 107 (c_X6_isCell l D cI adK adV (m_numbers (1 : Int32).toNatClampNeg) r3 q4) (gS uu1121 uu1123 uu6 uu1124) hd_X6_isCell rfl ⟨rfl, rfl⟩ ⟨Nat.le_of_ble_eq_true rfl, Nat.le_of_ble_eq_true rfl⟩ ⟨Nat.le_of_ble_eq_true rfl, Nat.le_of_ble_eq_true rfl⟩ rfl (Nat.le_of_ble_eq_true rfl) rfl dX6_isDone_104 ?_
      refine s_if_eq C 122 110 rfl dX6_isDone_107 rfl (fun hc12 => ?_) (fun hc12 => ?_)
      · replace hf := ite_t hc12 hf
        refine s_iconst C 123 rfl dX6_isDone_122 ic_0 ?_
        obtain rfl := Option.some.inj hf
        exact s_zret C (fun i => i) hr hlk (Or.inl rfl) rfl rfl dX6_isDone_123
      · replace hf := ite_f hc12 hf
        refine s_aload_n C 111 2 rfl dX6_isDone_110 rfl ?_
        refine s_get (C1 := RX6) (T := TX6) (N := 26) (ci := 5) C 114 0 0 uX6 rfl rfl (Nat.le_of_ble_eq_true rfl) uu986 rfl rfl rfl dX6_isDone_111 ?_
        refine s_iload_n C 115 1 rfl dX6_isDone_114 rfl ?_
        refine s_iload_n C 116 0 rfl dX6_isDone_115 rfl ?_
        obtain ⟨r5, q6, hf⟩ := bn_s hf
        refine s_callS0 (host := "") (rest := []) C 119 (c_X6_canBite l D cI adK adV m_left (m_numbers (0 : Int32).toNatClampNeg) (m_numbers (1 : Int32).toNatClampNeg) r5 q6) (gS uu1126 uu1128 uu6 uu1129) hd_X6_canBite rfl ⟨rfl, rfl⟩ ⟨Nat.le_of_ble_eq_true rfl, Nat.le_of_ble_eq_true rfl⟩ ⟨Nat.le_of_ble_eq_true rfl, Nat.le_of_ble_eq_true rfl⟩ rfl (Nat.le_of_ble_eq_true rfl) rfl dX6_isDone_116 ?_
        refine s_if_ne C 124 122 rfl dX6_isDone_119 rfl (fun hc11 => ?_) (fun hc11 => ?_)
        · replace hf := ite_f hc11 hf
          refine s_aload_n C 125 2 rfl dX6_isDone_124 rfl ?_
          refine s_iload_n C 126 1 rfl dX6_isDone_125 rfl ?_
          refine s_iload_n C 127 0 rfl dX6_isDone_126 rfl ?_
          obtain ⟨r7, q8, hf⟩ := bn_s hf
          refine s_callS0 (host := "") (rest := [.ref (ad 0)]) C 130 (c_X6_bite l D cI adK adV (m_numbers (0 : Int32).toNatClampNeg) (m_numbers (1 : Int32).toNatClampNeg) r7 q8) (gS uu1131 uu1133 uu6 uu1134) hd_X6_bite rfl ⟨rfl, rfl⟩ ⟨Nat.le_of_ble_eq_true rfl, Nat.le_of_ble_eq_true rfl⟩ ⟨Nat.le_of_ble_eq_true rfl, Nat.le_of_ble_eq_true rfl⟩ rfl (Nat.le_of_ble_eq_true rfl) rfl dX6_isDone_127 ?_
          obtain ⟨r9, q10, hf⟩ := bn_s hf
          refine s_callW (T := TX6) (N := 26) (ci := 5) (q0 := 0) (rest := []) C 133 (c_X6_bitesOff l D cI adK adV ad m_left m_bites m_many m_imageLeft m_imageBites m_imageMany m_wasLeft m_wasBites m_wasMany m_hasImage m_letterMany m_rowMany m_place m_seed m_kind m_figure m_imageKind m_imageFigure m_wasKind m_wasFigure m_letters m_row m_refused m_numbers m_counted m_few r7 r9 q10) (gV uu1136 uu1138 uu1578 uu6 uu1139) hd_X6_bitesOff rfl ⟨rfl, rfl⟩ ⟨Nat.le_of_ble_eq_true rfl, Nat.le_of_ble_eq_true rfl⟩ ⟨Nat.le_of_ble_eq_true rfl, Nat.le_of_ble_eq_true rfl⟩ rfl rfl rfl (Nat.le_of_ble_eq_true rfl) rfl dX6_isDone_130 (fun _ => ?_)
          refine s_iconst C 134 rfl dX6_isDone_133 ic_1 ?_
          obtain rfl := Option.some.inj hf
          exact s_zret C (fun i => i) hr hlk (Or.inr rfl) rfl rfl dX6_isDone_134
        · replace hf := ite_t hc11 hf
          refine s_iconst C 123 rfl dX6_isDone_122 ic_0 ?_
          obtain rfl := Option.some.inj hf
          exact s_zret C (fun i => i) hr hlk (Or.inl rfl) rfl rfl dX6_isDone_123
  · replace hf := ite_f hc14 hf
    by_cases hc18 : a1 = (104 : Int32)
    · replace hf := ite_t hc18 hf
      refine s_lookup (off := 41) C 56 dX6_isDone_15 rfl (by rw [hc18]; rfl) rfl ?_
      refine s_aload_n C 57 2 rfl dX6_isDone_56 rfl ?_
      refine s_get (C1 := RX6) (T := TX6) (N := 26) (ci := 5) C 60 0 2 uX6 rfl rfl (Nat.le_of_ble_eq_true rfl) uu990 rfl rfl rfl dX6_isDone_57 ?_
      refine s_iconst C 61 rfl dX6_isDone_60 ic_5 ?_
      refine s_icmp_ne C 66 64 rfl dX6_isDone_61 rfl (fun hc17 => ?_) (fun hc17 => ?_)
      · replace hf := ite_f hc17 hf
        refine s_aload_n C 67 2 rfl dX6_isDone_66 rfl ?_
        refine s_get (C1 := RX6) (T := TX6) (N := 26) (ci := 5) C 70 0 9 uX6 rfl rfl (Nat.le_of_ble_eq_true rfl) uu1004 rfl rfl rfl dX6_isDone_67 ?_
        refine s_aload_n C 71 2 rfl dX6_isDone_70 rfl ?_
        refine s_get (C1 := RX6) (T := TX6) (N := 26) (ci := 5) C 74 0 2 uX6 rfl rfl (Nat.le_of_ble_eq_true rfl) uu990 rfl rfl rfl dX6_isDone_71 ?_
        refine s_iload_n C 75 1 rfl dX6_isDone_74 rfl ?_
        obtain ⟨h15, hf⟩ := ck_in hf
        refine s_iast (ws1 := (wM ad cI m_left m_bites m_many m_imageLeft m_imageBites m_imageMany m_wasLeft m_wasBites m_wasMany m_hasImage m_letterMany m_rowMany m_place m_seed (upd m_kind m_many.toNatClampNeg (m_numbers (0 : Int32).toNatClampNeg)) m_figure m_imageKind m_imageFigure m_wasKind m_wasFigure m_letters m_row m_refused m_numbers m_counted m_few)) C 76 1 rfl h15 rfl rfl dX6_isDone_75 ?_
        refine s_aload_n C 77 2 rfl dX6_isDone_76 rfl ?_
        refine s_get (C1 := RX6) (T := TX6) (N := 26) (ci := 5) C 80 0 10 uX6 rfl rfl (Nat.le_of_ble_eq_true rfl) uu1006 rfl rfl rfl dX6_isDone_77 ?_
        refine s_aload_n C 81 2 rfl dX6_isDone_80 rfl ?_
        refine s_get (C1 := RX6) (T := TX6) (N := 26) (ci := 5) C 84 0 2 uX6 rfl rfl (Nat.le_of_ble_eq_true rfl) uu990 rfl rfl rfl dX6_isDone_81 ?_
        refine s_iload_n C 85 0 rfl dX6_isDone_84 rfl ?_
        obtain ⟨h16, hf⟩ := ck_in hf
        refine s_iast (ws1 := (wM ad cI m_left m_bites m_many m_imageLeft m_imageBites m_imageMany m_wasLeft m_wasBites m_wasMany m_hasImage m_letterMany m_rowMany m_place m_seed (upd m_kind m_many.toNatClampNeg (m_numbers (0 : Int32).toNatClampNeg)) (upd m_figure m_many.toNatClampNeg (m_numbers (1 : Int32).toNatClampNeg)) m_imageKind m_imageFigure m_wasKind m_wasFigure m_letters m_row m_refused m_numbers m_counted m_few)) C 86 2 rfl h16 rfl rfl dX6_isDone_85 ?_
        refine s_aload_n C 87 2 rfl dX6_isDone_86 rfl ?_
        refine s_dup C 88 rfl dX6_isDone_87 rfl ?_
        refine s_get (C1 := RX6) (T := TX6) (N := 26) (ci := 5) C 91 0 2 uX6 rfl rfl (Nat.le_of_ble_eq_true rfl) uu990 rfl rfl rfl dX6_isDone_88 ?_
        refine s_iconst C 92 rfl dX6_isDone_91 ic_1 ?_
        refine s_iadd C 93 rfl dX6_isDone_92 ?_
        refine s_put (C1 := RX6) (T := TX6) (N := 26) (ci := 5) (ty := tyX6 2) (ws1 := (wM ad cI m_left m_bites (m_many + (1 : Int32)) m_imageLeft m_imageBites m_imageMany m_wasLeft m_wasBites m_wasMany m_hasImage m_letterMany m_rowMany m_place m_seed (upd m_kind m_many.toNatClampNeg (m_numbers (0 : Int32).toNatClampNeg)) (upd m_figure m_many.toNatClampNeg (m_numbers (1 : Int32).toNatClampNeg)) m_imageKind m_imageFigure m_wasKind m_wasFigure m_letters m_row m_refused m_numbers m_counted m_few)) C 96 0 2 uX6 tyX6 tyX6_ok nmX6 rfl rfl (Nat.le_of_ble_eq_true rfl) uu990 rfl rfl (tyX6_ok 2 (Nat.le_of_ble_eq_true rfl)) ⟨rfl, rfl⟩ (Nat.le_of_ble_eq_true rfl) rfl rfl dX6_isDone_93 ?_
        refine s_iconst C 97 rfl dX6_isDone_96 ic_1 ?_
        obtain rfl := Option.some.inj hf
        exact s_zret C (fun i => i) hr hlk (Or.inr rfl) rfl rfl dX6_isDone_97
      · replace hf := ite_t hc17 hf
        refine s_iconst C 65 rfl dX6_isDone_64 ic_0 ?_
        obtain rfl := Option.some.inj hf
        exact s_zret C (fun i => i) hr hlk (Or.inl rfl) rfl rfl dX6_isDone_65
    · replace hf := ite_f hc18 hf
      by_cases hc22 : a1 = (108 : Int32)
      · replace hf := ite_t hc22 hf
        refine s_lookup (off := 120) C 135 dX6_isDone_15 rfl (by rw [hc22]; rfl) rfl ?_
        refine s_iload_n C 136 1 rfl dX6_isDone_135 rfl ?_
        obtain ⟨r19, q20, hf⟩ := bn_s hf
        refine s_callS0 (host := "") (rest := []) C 139 (c_X6_isCell l D cI adK adV (m_numbers (0 : Int32).toNatClampNeg) r19 q20) (gS uu1121 uu1123 uu6 uu1124) hd_X6_isCell rfl ⟨rfl, rfl⟩ ⟨Nat.le_of_ble_eq_true rfl, Nat.le_of_ble_eq_true rfl⟩ ⟨Nat.le_of_ble_eq_true rfl, Nat.le_of_ble_eq_true rfl⟩ rfl (Nat.le_of_ble_eq_true rfl) rfl dX6_isDone_136 ?_
        refine s_if_ne C 144 142 rfl dX6_isDone_139 rfl (fun hc21 => ?_) (fun hc21 => ?_)
        · replace hf := ite_f hc21 hf
          refine s_aload_n C 145 2 rfl dX6_isDone_144 rfl ?_
          refine s_dup C 146 rfl dX6_isDone_145 rfl ?_
          refine s_get (C1 := RX6) (T := TX6) (N := 26) (ci := 5) C 149 0 0 uX6 rfl rfl (Nat.le_of_ble_eq_true rfl) uu986 rfl rfl rfl dX6_isDone_146 ?_
          refine s_iconst C 150 rfl dX6_isDone_149 ic_1 ?_
          refine s_iload_n C 151 1 rfl dX6_isDone_150 rfl ?_
          refine s_ishl C 152 rfl dX6_isDone_151 ?_
          refine s_ior C 153 rfl dX6_isDone_152 ?_
          refine s_put (C1 := RX6) (T := TX6) (N := 26) (ci := 5) (ty := tyX6 0) (ws1 := (wM ad cI (m_left ||| (jshl (1 : Int32) (m_numbers (0 : Int32).toNatClampNeg))) m_bites m_many m_imageLeft m_imageBites m_imageMany m_wasLeft m_wasBites m_wasMany m_hasImage m_letterMany m_rowMany m_place m_seed m_kind m_figure m_imageKind m_imageFigure m_wasKind m_wasFigure m_letters m_row m_refused m_numbers m_counted m_few)) C 156 0 0 uX6 tyX6 tyX6_ok nmX6 rfl rfl (Nat.le_of_ble_eq_true rfl) uu986 rfl rfl (tyX6_ok 0 (Nat.le_of_ble_eq_true rfl)) ⟨rfl, rfl⟩ (Nat.le_of_ble_eq_true rfl) rfl rfl dX6_isDone_153 ?_
          refine s_iconst C 157 rfl dX6_isDone_156 ic_1 ?_
          obtain rfl := Option.some.inj hf
          exact s_zret C (fun i => i) hr hlk (Or.inr rfl) rfl rfl dX6_isDone_157
        · replace hf := ite_t hc21 hf
          refine s_iconst C 143 rfl dX6_isDone_142 ic_0 ?_
          obtain rfl := Option.some.inj hf
          exact s_zret C (fun i => i) hr hlk (Or.inl rfl) rfl rfl dX6_isDone_143
      · replace hf := ite_f hc22 hf
        by_cases hc28 : a1 = (114 : Int32)
        · replace hf := ite_t hc28 hf
          refine s_lookup (off := 143) C 158 dX6_isDone_15 rfl (by rw [hc28]; rfl) rfl ?_
          refine s_iload_n C 159 1 rfl dX6_isDone_158 rfl ?_
          refine s_iconst C 160 rfl dX6_isDone_159 ic_1 ?_
          refine s_iconst C 161 rfl dX6_isDone_160 ic_3 ?_
          obtain ⟨r23, q24, hf⟩ := bn_s hf
          refine s_callS0 (host := "") (rest := []) C 164 (c_X6_isIn l D cI adK adV (m_numbers (0 : Int32).toNatClampNeg) (1 : Int32) (3 : Int32) r23 q24) (gS uu1106 uu1108 uu6 uu1109) hd_X6_isIn rfl ⟨rfl, rfl⟩ ⟨Nat.le_of_ble_eq_true rfl, Nat.le_of_ble_eq_true rfl⟩ ⟨Nat.le_of_ble_eq_true rfl, Nat.le_of_ble_eq_true rfl⟩ rfl (Nat.le_of_ble_eq_true rfl) rfl dX6_isDone_161 ?_
          refine s_if_ne C 169 167 rfl dX6_isDone_164 rfl (fun hc27 => ?_) (fun hc27 => ?_)
          · replace hf := ite_f hc27 hf
            refine s_aload_n C 170 2 rfl dX6_isDone_169 rfl ?_
            refine s_aload_n C 171 2 rfl dX6_isDone_170 rfl ?_
            refine s_get (C1 := RX6) (T := TX6) (N := 26) (ci := 5) C 174 0 0 uX6 rfl rfl (Nat.le_of_ble_eq_true rfl) uu986 rfl rfl rfl dX6_isDone_171 ?_
            refine s_iload_n C 175 1 rfl dX6_isDone_174 rfl ?_
            obtain ⟨r25, q26, hf⟩ := bn_s hf
            refine s_callS0 (host := "") (rest := [.ref (ad 0)]) C 178 (c_X6_turnedBy l D cI adK adV m_left (m_numbers (0 : Int32).toNatClampNeg) r25 q26) (gS uu1146 uu1148 uu6 uu1149) hd_X6_turnedBy rfl ⟨rfl, rfl⟩ ⟨Nat.le_of_ble_eq_true rfl, Nat.le_of_ble_eq_true rfl⟩ ⟨Nat.le_of_ble_eq_true rfl, Nat.le_of_ble_eq_true rfl⟩ rfl (Nat.le_of_ble_eq_true rfl) rfl dX6_isDone_175 ?_
            refine s_put (C1 := RX6) (T := TX6) (N := 26) (ci := 5) (ty := tyX6 0) (ws1 := (wM ad cI r25 m_bites m_many m_imageLeft m_imageBites m_imageMany m_wasLeft m_wasBites m_wasMany m_hasImage m_letterMany m_rowMany m_place m_seed m_kind m_figure m_imageKind m_imageFigure m_wasKind m_wasFigure m_letters m_row m_refused m_numbers m_counted m_few)) C 181 0 0 uX6 tyX6 tyX6_ok nmX6 rfl rfl (Nat.le_of_ble_eq_true rfl) uu986 rfl rfl (tyX6_ok 0 (Nat.le_of_ble_eq_true rfl)) ⟨rfl, rfl⟩ (Nat.le_of_ble_eq_true rfl) rfl rfl dX6_isDone_178 ?_
            refine s_iconst C 182 rfl dX6_isDone_181 ic_1 ?_
            obtain rfl := Option.some.inj hf
            exact s_zret C (fun i => i) hr hlk (Or.inr rfl) rfl rfl dX6_isDone_182
          · replace hf := ite_t hc27 hf
            refine s_iconst C 168 rfl dX6_isDone_167 ic_0 ?_
            obtain rfl := Option.some.inj hf
            exact s_zret C (fun i => i) hr hlk (Or.inl rfl) rfl rfl dX6_isDone_168
        · replace hf := ite_f hc28 hf
          refine s_lookup C 183 dX6_isDone_15 rfl (sw_off_X6_isDone_15 hc14 hc18 hc22 hc28) rfl ?_
          refine s_aload_n C 184 2 rfl dX6_isDone_183 rfl ?_
          obtain ⟨r29, q30, hf⟩ := bn_s hf
          refine s_callW (T := TX6) (N := 26) (ci := 5) (q0 := 0) (rest := []) C 187 (c_X6_allAgain l D cI adK adV ad m_left m_bites m_many m_imageLeft m_imageBites m_imageMany m_wasLeft m_wasBites m_wasMany m_hasImage m_letterMany m_rowMany m_place m_seed m_kind m_figure m_imageKind m_imageFigure m_wasKind m_wasFigure m_letters m_row m_refused m_numbers m_counted m_few r29 q30) (gV uu1156 uu1158 uu1579 uu6 uu1159) hd_X6_allAgain rfl ⟨rfl, rfl⟩ ⟨Nat.le_of_ble_eq_true rfl, Nat.le_of_ble_eq_true rfl⟩ ⟨Nat.le_of_ble_eq_true rfl, Nat.le_of_ble_eq_true rfl⟩ rfl rfl rfl (Nat.le_of_ble_eq_true rfl) rfl dX6_isDone_184 (fun _ => ?_)
          refine s_iconst C 188 rfl dX6_isDone_187 ic_1 ?_
          obtain rfl := Option.some.inj hf
          exact s_zret C (fun i => i) hr hlk (Or.inr rfl) rfl rfl dX6_isDone_188


theorem hd_X6_lays : yX6_lays.cls = RX6 ∧ yX6_lays.cls ≠ "java/lang/invoke/MethodHandle" ∧ yX6_lays.cls ≠ "java/lang/invoke/VarHandle" ∧ (parseMethodDescriptor yX6_lays.desc).map (fun d => d.parameters.length) = some 0 := by decide +kernel
set_option maxHeartbeats 4000000 in
set_option maxRecDepth 100000 in
theorem c_X6_lays (l : Launch) (D : va_G) (cI : ClassId) (adK adV : Nat → Nat) (ad : Nat → Nat) (m_left : Int32) (m_bites : Int32) (m_many : Int32) (m_imageLeft : Int32) (m_imageBites : Int32) (m_imageMany : Int32) (m_wasLeft : Int32) (m_wasBites : Int32) (m_wasMany : Int32) (m_hasImage : Int32) (m_letterMany : Int32) (m_rowMany : Int32) (m_place : Int32) (m_seed : Int32) (m_kind : (Nat → Int32)) (m_figure : (Nat → Int32)) (m_imageKind : (Nat → Int32)) (m_imageFigure : (Nat → Int32)) (m_wasKind : (Nat → Int32)) (m_wasFigure : (Nat → Int32)) (m_letters : (Nat → Int32)) (m_row : (Nat → Int32)) (m_refused : (Nat → Int32)) (m_numbers : (Nat → Int32)) (m_counted : (Nat → Int32)) (m_few : (Nat → Int32))  (o : Int32 × Int32 × Int32 × (Nat → Int32) × (Nat → Int32)) (hf : f_X6_lays m_left m_bites m_many m_kind m_figure m_wasKind m_wasFigure = some o) : Ct l D cI adK adV yX6_lays (wy yX6_lays cX6_lays 2 none) { frames := 0, cells := 0, slots := 0, locals := 0 } 0 0 [.ref (ad 0)] (wM ad cI m_left m_bites m_many m_imageLeft m_imageBites m_imageMany m_wasLeft m_wasBites m_wasMany m_hasImage m_letterMany m_rowMany m_place m_seed m_kind m_figure m_imageKind m_imageFigure m_wasKind m_wasFigure m_letters m_row m_refused m_numbers m_counted m_few) (fun _ => (wM ad cI m_left m_bites m_many m_imageLeft m_imageBites m_imageMany o.1 o.2.1 o.2.2.1 m_hasImage m_letterMany m_rowMany m_place m_seed m_kind m_figure m_imageKind m_imageFigure o.2.2.2.1 o.2.2.2.2 m_letters m_row m_refused m_numbers m_counted m_few)) (none) := by
  refine Ct.of (cc := cX6_lays) (nL := 2) (ret := none) (own := RX6) (by decide) (Nat.le_of_ble_eq_true rfl) rfl ?_
  intro p e s m args below meth c A C hr hlk hnm
  refine s_lv (lv1 := [(0, .ref (ad 0))]) [0] rfl ?_
  unfold f_X6_lays at hf
  refine s_aload_n C 1 0 rfl dX6_lays_0 rfl ?_
  refine s_aload_n C 2 0 rfl dX6_lays_1 rfl ?_
  refine s_get (C1 := RX6) (T := TX6) (N := 26) (ci := 5) C 5 0 0 uX6 rfl rfl (Nat.le_of_ble_eq_true rfl) uu986 rfl rfl rfl dX6_lays_2 ?_
  refine s_put (C1 := RX6) (T := TX6) (N := 26) (ci := 5) (ty := tyX6 6) (ws1 := (wM ad cI m_left m_bites m_many m_imageLeft m_imageBites m_imageMany m_left m_wasBites m_wasMany m_hasImage m_letterMany m_rowMany m_place m_seed m_kind m_figure m_imageKind m_imageFigure m_wasKind m_wasFigure m_letters m_row m_refused m_numbers m_counted m_few)) C 8 0 6 uX6 tyX6 tyX6_ok nmX6 rfl rfl (Nat.le_of_ble_eq_true rfl) uu998 rfl rfl (tyX6_ok 6 (Nat.le_of_ble_eq_true rfl)) ⟨rfl, rfl⟩ (Nat.le_of_ble_eq_true rfl) rfl rfl dX6_lays_5 ?_
  refine s_aload_n C 9 0 rfl dX6_lays_8 rfl ?_
  refine s_aload_n C 10 0 rfl dX6_lays_9 rfl ?_
  refine s_get (C1 := RX6) (T := TX6) (N := 26) (ci := 5) C 13 0 1 uX6 rfl rfl (Nat.le_of_ble_eq_true rfl) uu988 rfl rfl rfl dX6_lays_10 ?_
  refine s_put (C1 := RX6) (T := TX6) (N := 26) (ci := 5) (ty := tyX6 7) (ws1 := (wM ad cI m_left m_bites m_many m_imageLeft m_imageBites m_imageMany m_left m_bites m_wasMany m_hasImage m_letterMany m_rowMany m_place m_seed m_kind m_figure m_imageKind m_imageFigure m_wasKind m_wasFigure m_letters m_row m_refused m_numbers m_counted m_few)) C 16 0 7 uX6 tyX6 tyX6_ok nmX6 rfl rfl (Nat.le_of_ble_eq_true rfl) uu1000 rfl rfl (tyX6_ok 7 (Nat.le_of_ble_eq_true rfl)) ⟨rfl, rfl⟩ (Nat.le_of_ble_eq_true rfl) rfl rfl dX6_lays_13 ?_
  refine s_aload_n C 17 0 rfl dX6_lays_16 rfl ?_
  refine s_aload_n C 18 0 rfl dX6_lays_17 rfl ?_
  refine s_get (C1 := RX6) (T := TX6) (N := 26) (ci := 5) C 21 0 2 uX6 rfl rfl (Nat.le_of_ble_eq_true rfl) uu990 rfl rfl rfl dX6_lays_18 ?_
  refine s_put (C1 := RX6) (T := TX6) (N := 26) (ci := 5) (ty := tyX6 8) (ws1 := (wM ad cI m_left m_bites m_many m_imageLeft m_imageBites m_imageMany m_left m_bites m_many m_hasImage m_letterMany m_rowMany m_place m_seed m_kind m_figure m_imageKind m_imageFigure m_wasKind m_wasFigure m_letters m_row m_refused m_numbers m_counted m_few)) C 24 0 8 uX6 tyX6 tyX6_ok nmX6 rfl rfl (Nat.le_of_ble_eq_true rfl) uu1002 rfl rfl (tyX6_ok 8 (Nat.le_of_ble_eq_true rfl)) ⟨rfl, rfl⟩ (Nat.le_of_ble_eq_true rfl) rfl rfl dX6_lays_21 ?_
  refine s_iconst C 25 rfl dX6_lays_24 ic_0 ?_
  refine s_istore_n (lv1 := [(1, .int (0 : Int32)), (0, .ref (ad 0))]) C 26 1 rfl dX6_lays_25 rfl (Nat.le_of_ble_eq_true rfl) rfl ?_
  refine s_lv (lv1 := [(0, .ref (ad 0)), (1, .int (0 : Int32))]) [1, 0] rfl ?_
  refine s_loop (α := Int32 × (Nat → Int32) × (Nat → Int32)) (fun n v6 => f_X6_lays_26 m_left m_bites m_many m_kind m_figure n v6.1 v6.2.1 v6.2.2) 26 (fun v6 => [(0, .ref (ad 0)), (1, .int v6.1)]) (fun v6 => (wM ad cI m_left m_bites m_many m_imageLeft m_imageBites m_imageMany m_left m_bites m_many m_hasImage m_letterMany m_rowMany m_place m_seed m_kind m_figure m_imageKind m_imageFigure v6.2.1 v6.2.2 m_letters m_row m_refused m_numbers m_counted m_few)) 1000 ((0 : Int32), m_wasKind, m_wasFigure) hf (fun v6 hf => by simp only [f_X6_lays_26] at hf; exact absurd hf (by simp)) (fun n ih7 v6 hf => ?_)
  replace hf := (f_X6_lays_26_s _ _ _ _ _ _ _ _ _).symm.trans hf
  refine s_iload_n C 27 1 rfl dX6_lays_26 rfl ?_
  refine s_iconst C 28 rfl dX6_lays_27 ic_5 ?_
  refine s_icmp_ge C 61 31 rfl dX6_lays_28 rfl (fun hc12 => ?_) (fun hc12 => ?_)
  · replace hf := ite_t hc12 hf
    obtain rfl := Option.some.inj hf
    exact s_vret C (fun i => i) hr hlk rfl rfl dX6_lays_61
  · replace hf := ite_f hc12 hf
    refine s_aload_n C 32 0 rfl dX6_lays_31 rfl ?_
    refine s_get (C1 := RX6) (T := TX6) (N := 26) (ci := 5) C 35 0 13 uX6 rfl rfl (Nat.le_of_ble_eq_true rfl) uu1012 rfl rfl rfl dX6_lays_32 ?_
    refine s_iload_n C 36 1 rfl dX6_lays_35 rfl ?_
    refine s_aload_n C 37 0 rfl dX6_lays_36 rfl ?_
    refine s_get (C1 := RX6) (T := TX6) (N := 26) (ci := 5) C 40 0 9 uX6 rfl rfl (Nat.le_of_ble_eq_true rfl) uu1004 rfl rfl rfl dX6_lays_37 ?_
    refine s_iload_n C 41 1 rfl dX6_lays_40 rfl ?_
    obtain ⟨h8, hf⟩ := ck_in hf
    refine s_iald C 42 1 rfl h8 rfl dX6_lays_41 ?_
    obtain ⟨h9, hf⟩ := ck_in hf
    refine s_iast (ws1 := (wM ad cI m_left m_bites m_many m_imageLeft m_imageBites m_imageMany m_left m_bites m_many m_hasImage m_letterMany m_rowMany m_place m_seed m_kind m_figure m_imageKind m_imageFigure (upd v6.2.1 v6.1.toNatClampNeg (m_kind v6.1.toNatClampNeg)) v6.2.2 m_letters m_row m_refused m_numbers m_counted m_few)) C 43 5 rfl h9 rfl rfl dX6_lays_42 ?_
    refine s_aload_n C 44 0 rfl dX6_lays_43 rfl ?_
    refine s_get (C1 := RX6) (T := TX6) (N := 26) (ci := 5) C 47 0 14 uX6 rfl rfl (Nat.le_of_ble_eq_true rfl) uu1014 rfl rfl rfl dX6_lays_44 ?_
    refine s_iload_n C 48 1 rfl dX6_lays_47 rfl ?_
    refine s_aload_n C 49 0 rfl dX6_lays_48 rfl ?_
    refine s_get (C1 := RX6) (T := TX6) (N := 26) (ci := 5) C 52 0 10 uX6 rfl rfl (Nat.le_of_ble_eq_true rfl) uu1006 rfl rfl rfl dX6_lays_49 ?_
    refine s_iload_n C 53 1 rfl dX6_lays_52 rfl ?_
    obtain ⟨h10, hf⟩ := ck_in hf
    refine s_iald C 54 2 rfl h10 rfl dX6_lays_53 ?_
    obtain ⟨h11, hf⟩ := ck_in hf
    refine s_iast (ws1 := (wM ad cI m_left m_bites m_many m_imageLeft m_imageBites m_imageMany m_left m_bites m_many m_hasImage m_letterMany m_rowMany m_place m_seed m_kind m_figure m_imageKind m_imageFigure (upd v6.2.1 v6.1.toNatClampNeg (m_kind v6.1.toNatClampNeg)) (upd v6.2.2 v6.1.toNatClampNeg (m_figure v6.1.toNatClampNeg)) m_letters m_row m_refused m_numbers m_counted m_few)) C 55 6 rfl h11 rfl rfl dX6_lays_54 ?_
    refine s_iinc (lv1 := [(1, .int (v6.1 + (1 : Int32))), (0, .ref (ad 0))]) C 58 1 1 rfl dX6_lays_55 rfl ic_1 (Nat.le_of_ble_eq_true rfl) rfl ?_
    refine s_goto C 26 dX6_lays_58 rfl ?_
    exact s_lv [1, 0] rfl (ih7 ((v6.1 + (1 : Int32), upd v6.2.1 v6.1.toNatClampNeg (m_kind v6.1.toNatClampNeg), upd v6.2.2 v6.1.toNatClampNeg (m_figure v6.1.toNatClampNeg)) : Int32 × (Nat → Int32) × (Nat → Int32)) hf)


theorem hd_X6_laysBack : yX6_laysBack.cls = RX6 ∧ yX6_laysBack.cls ≠ "java/lang/invoke/MethodHandle" ∧ yX6_laysBack.cls ≠ "java/lang/invoke/VarHandle" ∧ (parseMethodDescriptor yX6_laysBack.desc).map (fun d => d.parameters.length) = some 0 := by decide +kernel
set_option maxHeartbeats 4000000 in
set_option maxRecDepth 100000 in
theorem c_X6_laysBack (l : Launch) (D : va_G) (cI : ClassId) (adK adV : Nat → Nat) (ad : Nat → Nat) (m_left : Int32) (m_bites : Int32) (m_many : Int32) (m_imageLeft : Int32) (m_imageBites : Int32) (m_imageMany : Int32) (m_wasLeft : Int32) (m_wasBites : Int32) (m_wasMany : Int32) (m_hasImage : Int32) (m_letterMany : Int32) (m_rowMany : Int32) (m_place : Int32) (m_seed : Int32) (m_kind : (Nat → Int32)) (m_figure : (Nat → Int32)) (m_imageKind : (Nat → Int32)) (m_imageFigure : (Nat → Int32)) (m_wasKind : (Nat → Int32)) (m_wasFigure : (Nat → Int32)) (m_letters : (Nat → Int32)) (m_row : (Nat → Int32)) (m_refused : (Nat → Int32)) (m_numbers : (Nat → Int32)) (m_counted : (Nat → Int32)) (m_few : (Nat → Int32))  (o : Int32 × Int32 × Int32 × (Nat → Int32) × (Nat → Int32)) (hf : f_X6_laysBack m_wasLeft m_wasBites m_wasMany m_kind m_figure m_wasKind m_wasFigure = some o) : Ct l D cI adK adV yX6_laysBack (wy yX6_laysBack cX6_laysBack 2 none) { frames := 0, cells := 0, slots := 0, locals := 0 } 0 0 [.ref (ad 0)] (wM ad cI m_left m_bites m_many m_imageLeft m_imageBites m_imageMany m_wasLeft m_wasBites m_wasMany m_hasImage m_letterMany m_rowMany m_place m_seed m_kind m_figure m_imageKind m_imageFigure m_wasKind m_wasFigure m_letters m_row m_refused m_numbers m_counted m_few) (fun _ => (wM ad cI o.1 o.2.1 o.2.2.1 m_imageLeft m_imageBites m_imageMany m_wasLeft m_wasBites m_wasMany m_hasImage m_letterMany m_rowMany m_place m_seed o.2.2.2.1 o.2.2.2.2 m_imageKind m_imageFigure m_wasKind m_wasFigure m_letters m_row m_refused m_numbers m_counted m_few)) (none) := by
  refine Ct.of (cc := cX6_laysBack) (nL := 2) (ret := none) (own := RX6) (by decide) (Nat.le_of_ble_eq_true rfl) rfl ?_
  intro p e s m args below meth c A C hr hlk hnm
  refine s_lv (lv1 := [(0, .ref (ad 0))]) [0] rfl ?_
  unfold f_X6_laysBack at hf
  refine s_aload_n C 1 0 rfl dX6_laysBack_0 rfl ?_
  refine s_aload_n C 2 0 rfl dX6_laysBack_1 rfl ?_
  refine s_get (C1 := RX6) (T := TX6) (N := 26) (ci := 5) C 5 0 6 uX6 rfl rfl (Nat.le_of_ble_eq_true rfl) uu998 rfl rfl rfl dX6_laysBack_2 ?_
  refine s_put (C1 := RX6) (T := TX6) (N := 26) (ci := 5) (ty := tyX6 0) (ws1 := (wM ad cI m_wasLeft m_bites m_many m_imageLeft m_imageBites m_imageMany m_wasLeft m_wasBites m_wasMany m_hasImage m_letterMany m_rowMany m_place m_seed m_kind m_figure m_imageKind m_imageFigure m_wasKind m_wasFigure m_letters m_row m_refused m_numbers m_counted m_few)) C 8 0 0 uX6 tyX6 tyX6_ok nmX6 rfl rfl (Nat.le_of_ble_eq_true rfl) uu986 rfl rfl (tyX6_ok 0 (Nat.le_of_ble_eq_true rfl)) ⟨rfl, rfl⟩ (Nat.le_of_ble_eq_true rfl) rfl rfl dX6_laysBack_5 ?_
  refine s_aload_n C 9 0 rfl dX6_laysBack_8 rfl ?_
  refine s_aload_n C 10 0 rfl dX6_laysBack_9 rfl ?_
  refine s_get (C1 := RX6) (T := TX6) (N := 26) (ci := 5) C 13 0 7 uX6 rfl rfl (Nat.le_of_ble_eq_true rfl) uu1000 rfl rfl rfl dX6_laysBack_10 ?_
  refine s_put (C1 := RX6) (T := TX6) (N := 26) (ci := 5) (ty := tyX6 1) (ws1 := (wM ad cI m_wasLeft m_wasBites m_many m_imageLeft m_imageBites m_imageMany m_wasLeft m_wasBites m_wasMany m_hasImage m_letterMany m_rowMany m_place m_seed m_kind m_figure m_imageKind m_imageFigure m_wasKind m_wasFigure m_letters m_row m_refused m_numbers m_counted m_few)) C 16 0 1 uX6 tyX6 tyX6_ok nmX6 rfl rfl (Nat.le_of_ble_eq_true rfl) uu988 rfl rfl (tyX6_ok 1 (Nat.le_of_ble_eq_true rfl)) ⟨rfl, rfl⟩ (Nat.le_of_ble_eq_true rfl) rfl rfl dX6_laysBack_13 ?_
  refine s_aload_n C 17 0 rfl dX6_laysBack_16 rfl ?_
  refine s_aload_n C 18 0 rfl dX6_laysBack_17 rfl ?_
  refine s_get (C1 := RX6) (T := TX6) (N := 26) (ci := 5) C 21 0 8 uX6 rfl rfl (Nat.le_of_ble_eq_true rfl) uu1002 rfl rfl rfl dX6_laysBack_18 ?_
  refine s_put (C1 := RX6) (T := TX6) (N := 26) (ci := 5) (ty := tyX6 2) (ws1 := (wM ad cI m_wasLeft m_wasBites m_wasMany m_imageLeft m_imageBites m_imageMany m_wasLeft m_wasBites m_wasMany m_hasImage m_letterMany m_rowMany m_place m_seed m_kind m_figure m_imageKind m_imageFigure m_wasKind m_wasFigure m_letters m_row m_refused m_numbers m_counted m_few)) C 24 0 2 uX6 tyX6 tyX6_ok nmX6 rfl rfl (Nat.le_of_ble_eq_true rfl) uu990 rfl rfl (tyX6_ok 2 (Nat.le_of_ble_eq_true rfl)) ⟨rfl, rfl⟩ (Nat.le_of_ble_eq_true rfl) rfl rfl dX6_laysBack_21 ?_
  refine s_iconst C 25 rfl dX6_laysBack_24 ic_0 ?_
  refine s_istore_n (lv1 := [(1, .int (0 : Int32)), (0, .ref (ad 0))]) C 26 1 rfl dX6_laysBack_25 rfl (Nat.le_of_ble_eq_true rfl) rfl ?_
  refine s_lv (lv1 := [(0, .ref (ad 0)), (1, .int (0 : Int32))]) [1, 0] rfl ?_
  refine s_loop (α := Int32 × (Nat → Int32) × (Nat → Int32)) (fun n v6 => f_X6_laysBack_26 m_wasLeft m_wasBites m_wasMany m_wasKind m_wasFigure n v6.1 v6.2.1 v6.2.2) 26 (fun v6 => [(0, .ref (ad 0)), (1, .int v6.1)]) (fun v6 => (wM ad cI m_wasLeft m_wasBites m_wasMany m_imageLeft m_imageBites m_imageMany m_wasLeft m_wasBites m_wasMany m_hasImage m_letterMany m_rowMany m_place m_seed v6.2.1 v6.2.2 m_imageKind m_imageFigure m_wasKind m_wasFigure m_letters m_row m_refused m_numbers m_counted m_few)) 1000 ((0 : Int32), m_kind, m_figure) hf (fun v6 hf => by simp only [f_X6_laysBack_26] at hf; exact absurd hf (by simp)) (fun n ih7 v6 hf => ?_)
  replace hf := (f_X6_laysBack_26_s _ _ _ _ _ _ _ _ _).symm.trans hf
  refine s_iload_n C 27 1 rfl dX6_laysBack_26 rfl ?_
  refine s_iconst C 28 rfl dX6_laysBack_27 ic_5 ?_
  refine s_icmp_ge C 61 31 rfl dX6_laysBack_28 rfl (fun hc12 => ?_) (fun hc12 => ?_)
  · replace hf := ite_t hc12 hf
    obtain rfl := Option.some.inj hf
    exact s_vret C (fun i => i) hr hlk rfl rfl dX6_laysBack_61
  · replace hf := ite_f hc12 hf
    refine s_aload_n C 32 0 rfl dX6_laysBack_31 rfl ?_
    refine s_get (C1 := RX6) (T := TX6) (N := 26) (ci := 5) C 35 0 9 uX6 rfl rfl (Nat.le_of_ble_eq_true rfl) uu1004 rfl rfl rfl dX6_laysBack_32 ?_
    refine s_iload_n C 36 1 rfl dX6_laysBack_35 rfl ?_
    refine s_aload_n C 37 0 rfl dX6_laysBack_36 rfl ?_
    refine s_get (C1 := RX6) (T := TX6) (N := 26) (ci := 5) C 40 0 13 uX6 rfl rfl (Nat.le_of_ble_eq_true rfl) uu1012 rfl rfl rfl dX6_laysBack_37 ?_
    refine s_iload_n C 41 1 rfl dX6_laysBack_40 rfl ?_
    obtain ⟨h8, hf⟩ := ck_in hf
    refine s_iald C 42 5 rfl h8 rfl dX6_laysBack_41 ?_
    obtain ⟨h9, hf⟩ := ck_in hf
    refine s_iast (ws1 := (wM ad cI m_wasLeft m_wasBites m_wasMany m_imageLeft m_imageBites m_imageMany m_wasLeft m_wasBites m_wasMany m_hasImage m_letterMany m_rowMany m_place m_seed (upd v6.2.1 v6.1.toNatClampNeg (m_wasKind v6.1.toNatClampNeg)) v6.2.2 m_imageKind m_imageFigure m_wasKind m_wasFigure m_letters m_row m_refused m_numbers m_counted m_few)) C 43 1 rfl h9 rfl rfl dX6_laysBack_42 ?_
    refine s_aload_n C 44 0 rfl dX6_laysBack_43 rfl ?_
    refine s_get (C1 := RX6) (T := TX6) (N := 26) (ci := 5) C 47 0 10 uX6 rfl rfl (Nat.le_of_ble_eq_true rfl) uu1006 rfl rfl rfl dX6_laysBack_44 ?_
    refine s_iload_n C 48 1 rfl dX6_laysBack_47 rfl ?_
    refine s_aload_n C 49 0 rfl dX6_laysBack_48 rfl ?_
    refine s_get (C1 := RX6) (T := TX6) (N := 26) (ci := 5) C 52 0 14 uX6 rfl rfl (Nat.le_of_ble_eq_true rfl) uu1014 rfl rfl rfl dX6_laysBack_49 ?_
    refine s_iload_n C 53 1 rfl dX6_laysBack_52 rfl ?_
    obtain ⟨h10, hf⟩ := ck_in hf
    refine s_iald C 54 6 rfl h10 rfl dX6_laysBack_53 ?_
    obtain ⟨h11, hf⟩ := ck_in hf
    refine s_iast (ws1 := (wM ad cI m_wasLeft m_wasBites m_wasMany m_imageLeft m_imageBites m_imageMany m_wasLeft m_wasBites m_wasMany m_hasImage m_letterMany m_rowMany m_place m_seed (upd v6.2.1 v6.1.toNatClampNeg (m_wasKind v6.1.toNatClampNeg)) (upd v6.2.2 v6.1.toNatClampNeg (m_wasFigure v6.1.toNatClampNeg)) m_imageKind m_imageFigure m_wasKind m_wasFigure m_letters m_row m_refused m_numbers m_counted m_few)) C 55 2 rfl h11 rfl rfl dX6_laysBack_54 ?_
    refine s_iinc (lv1 := [(1, .int (v6.1 + (1 : Int32))), (0, .ref (ad 0))]) C 58 1 1 rfl dX6_laysBack_55 rfl ic_1 (Nat.le_of_ble_eq_true rfl) rfl ?_
    refine s_goto C 26 dX6_laysBack_58 rfl ?_
    exact s_lv [1, 0] rfl (ih7 ((v6.1 + (1 : Int32), upd v6.2.1 v6.1.toNatClampNeg (m_wasKind v6.1.toNatClampNeg), upd v6.2.2 v6.1.toNatClampNeg (m_wasFigure v6.1.toNatClampNeg)) : Int32 × (Nat → Int32) × (Nat → Int32)) hf)


theorem hd_X6_biteFor : yX6_biteFor.cls = RX6 ∧ yX6_biteFor.cls ≠ "java/lang/invoke/MethodHandle" ∧ yX6_biteFor.cls ≠ "java/lang/invoke/VarHandle" ∧ (parseMethodDescriptor yX6_biteFor.desc).map (fun d => d.parameters.length) = some 3 := by decide +kernel
set_option maxHeartbeats 4000000 in
set_option maxRecDepth 100000 in
theorem c_X6_biteFor (l : Launch) (D : va_G) (cI : ClassId) (adK adV : Nat → Nat) (ad : Nat → Nat) (m_left : Int32) (m_bites : Int32) (m_many : Int32) (m_imageLeft : Int32) (m_imageBites : Int32) (m_imageMany : Int32) (m_wasLeft : Int32) (m_wasBites : Int32) (m_wasMany : Int32) (m_hasImage : Int32) (m_letterMany : Int32) (m_rowMany : Int32) (m_place : Int32) (m_seed : Int32) (m_kind : (Nat → Int32)) (m_figure : (Nat → Int32)) (m_imageKind : (Nat → Int32)) (m_imageFigure : (Nat → Int32)) (m_wasKind : (Nat → Int32)) (m_wasFigure : (Nat → Int32)) (m_letters : (Nat → Int32)) (m_row : (Nat → Int32)) (m_refused : (Nat → Int32)) (m_numbers : (Nat → Int32)) (m_counted : (Nat → Int32)) (m_few : (Nat → Int32)) (a1 : Int32) (a2 : Int32) (a3 : Int32) (o : Int32) (hf : f_X6_biteFor m_kind m_figure a1 a2 a3 = some o) : Ct l D cI adK adV yX6_biteFor (wy yX6_biteFor cX6_biteFor 9 (some .int)) { frames := 5, cells := 0, slots := 0, locals := 117 } 0 0 [.ref (ad 0), .int a1, .int a2, .int a3] (wM ad cI m_left m_bites m_many m_imageLeft m_imageBites m_imageMany m_wasLeft m_wasBites m_wasMany m_hasImage m_letterMany m_rowMany m_place m_seed m_kind m_figure m_imageKind m_imageFigure m_wasKind m_wasFigure m_letters m_row m_refused m_numbers m_counted m_few) (fun _ => (wM ad cI m_left m_bites m_many m_imageLeft m_imageBites m_imageMany m_wasLeft m_wasBites m_wasMany m_hasImage m_letterMany m_rowMany m_place m_seed m_kind m_figure m_imageKind m_imageFigure m_wasKind m_wasFigure m_letters m_row m_refused m_numbers m_counted m_few)) (some (.int o)) := by
  refine Ct.of (cc := cX6_biteFor) (nL := 9) (ret := (some .int)) (own := RX6) (by decide) (Nat.le_of_ble_eq_true rfl) rfl ?_
  intro p e s m args below meth c A C hr hlk hnm
  refine s_lv (lv1 := [(0, .ref (ad 0)), (1, .int a1), (2, .int a2), (3, .int a3)]) [0, 1, 2, 3] rfl ?_
  unfold f_X6_biteFor at hf
  refine s_bipush C 2 rfl dX6_biteFor_0 bp_m9 ?_
  refine s_istore (lv1 := [(4, .int (-9 : Int32)), (0, .ref (ad 0)), (1, .int a1), (2, .int a2), (3, .int a3)]) C 4 4 rfl dX6_biteFor_2 (Nat.le_of_ble_eq_true rfl) rfl ?_
  refine s_iload_n C 5 4 rfl dX6_biteFor_4 rfl ?_
  refine s_aload_n C 6 1 rfl dX6_biteFor_5 rfl ?_
  refine s_iload_n C 7 2 rfl dX6_biteFor_6 rfl ?_
  refine s_iload_n C 8 3 rfl dX6_biteFor_7 rfl ?_
  obtain ⟨r1, q2, hf⟩ := bn_s hf
  refine s_callW (T := TX6) (N := 26) (ci := 5) (q0 := 0) (rest := [.int a3]) C 11 (c_X6_shareOf l D cI adK adV ad m_left m_bites m_many m_imageLeft m_imageBites m_imageMany m_wasLeft m_wasBites m_wasMany m_hasImage m_letterMany m_rowMany m_place m_seed m_kind m_figure m_imageKind m_imageFigure m_wasKind m_wasFigure m_letters m_row m_refused m_numbers m_counted m_few a1 a2 r1 q2) (gV uu1198 uu1200 uu1582 uu6 uu1201) hd_X6_shareOf rfl ⟨rfl, rfl⟩ ⟨Nat.le_of_ble_eq_true rfl, Nat.le_of_ble_eq_true rfl⟩ ⟨Nat.le_of_ble_eq_true rfl, Nat.le_of_ble_eq_true rfl⟩ rfl rfl rfl (Nat.le_of_ble_eq_true rfl) rfl dX6_biteFor_8 (fun _ => ?_)
  refine s_imul C 12 rfl dX6_biteFor_11 ?_
  refine s_istore (lv1 := [(5, .int (a3 * r1)), (4, .int (-9 : Int32)), (0, .ref (ad 0)), (1, .int a1), (2, .int a2), (3, .int a3)]) C 14 5 rfl dX6_biteFor_12 (Nat.le_of_ble_eq_true rfl) rfl ?_
  refine s_iconst C 15 rfl dX6_biteFor_14 ic_0 ?_
  refine s_istore (lv1 := [(6, .int (0 : Int32)), (5, .int (a3 * r1)), (4, .int (-9 : Int32)), (0, .ref (ad 0)), (1, .int a1), (2, .int a2), (3, .int a3)]) C 17 6 rfl dX6_biteFor_15 (Nat.le_of_ble_eq_true rfl) rfl ?_
  refine s_lv (lv1 := [(0, .ref (ad 0)), (1, .int a1), (2, .int a2), (3, .int a3), (4, .int (-9 : Int32)), (5, .int (a3 * r1)), (6, .int (0 : Int32))]) [3, 4, 5, 6, 2, 1, 0] rfl ?_
  refine s_loop (α := Int32 × Int32 × Int32) (fun n v28 => f_X6_biteFor_17 a1 a2 a3 m_kind m_figure n v28.1 v28.2.1 v28.2.2) 17 (fun v28 => [(0, .ref (ad 0)), (1, .int a1), (2, .int a2), (3, .int a3), (4, .int v28.1), (5, .int v28.2.1), (6, .int v28.2.2)]) (fun v28 => (wM ad cI m_left m_bites m_many m_imageLeft m_imageBites m_imageMany m_wasLeft m_wasBites m_wasMany m_hasImage m_letterMany m_rowMany m_place m_seed m_kind m_figure m_imageKind m_imageFigure m_wasKind m_wasFigure m_letters m_row m_refused m_numbers m_counted m_few)) 1000 ((-9 : Int32), a3 * r1, (0 : Int32)) hf (fun v28 hf => by simp only [f_X6_biteFor_17] at hf; exact absurd hf (by simp)) (fun n ih29 v28 hf => ?_)
  replace hf := (f_X6_biteFor_17_s _ _ _ _ _ _ _ _ _).symm.trans hf
  refine s_iload C 19 6 rfl dX6_biteFor_17 rfl ?_
  refine s_iconst C 20 rfl dX6_biteFor_19 ic_4 ?_
  refine s_icmp_ge C 103 23 rfl dX6_biteFor_20 rfl (fun hc44 => ?_) (fun hc44 => ?_)
  · replace hf := ite_t hc44 hf
    refine s_iload C 105 4 rfl dX6_biteFor_103 rfl ?_
    obtain rfl := Option.some.inj hf
    exact s_iret C (fun i => i) hr hlk rfl rfl dX6_biteFor_105
  · replace hf := ite_f hc44 hf
    refine s_iconst C 24 rfl dX6_biteFor_23 ic_0 ?_
    refine s_istore (lv1 := [(7, .int (0 : Int32)), (0, .ref (ad 0)), (1, .int a1), (2, .int a2), (3, .int a3), (4, .int v28.1), (5, .int v28.2.1), (6, .int v28.2.2)]) C 26 7 rfl dX6_biteFor_24 (Nat.le_of_ble_eq_true rfl) rfl ?_
    refine s_lv (lv1 := [(0, .ref (ad 0)), (1, .int a1), (2, .int a2), (3, .int a3), (4, .int v28.1), (5, .int v28.2.1), (6, .int v28.2.2), (7, .int (0 : Int32))]) [1, 2, 3, 4, 5, 6, 7, 0] rfl ?_
    refine s_kont (γ := Int32 × Int32) (o := o) (fun KQ => f_X6_biteFor_26 a1 a2 a3 v28.2.2 m_kind m_figure KQ 1000 v28.1 v28.2.1 (0 : Int32) = some o) 97 (fun e31 => [(0, .ref (ad 0)), (1, .int a1), (2, .int a2), (3, .int a3), (4, .int e31.1), (5, .int e31.2), (6, .int v28.2.2)]) (fun e31 => []) (fun e31 => (wM ad cI m_left m_bites m_many m_imageLeft m_imageBites m_imageMany m_wasLeft m_wasBites m_wasMany m_hasImage m_letterMany m_rowMany m_place m_seed m_kind m_figure m_imageKind m_imageFigure m_wasKind m_wasFigure m_letters m_row m_refused m_numbers m_counted m_few)) hf (fun e31 hf => ?_) (fun k30 hk30 hf => ?_)
    · refine s_iinc (lv1 := [(6, .int (v28.2.2 + (1 : Int32))), (0, .ref (ad 0)), (1, .int a1), (2, .int a2), (3, .int a3), (4, .int e31.1), (5, .int e31.2)]) C 100 6 6 rfl dX6_biteFor_97 rfl ic_1 (Nat.le_of_ble_eq_true rfl) rfl ?_
      refine s_goto C 17 dX6_biteFor_100 rfl ?_
      exact s_lv [1, 2, 3, 4, 5, 6, 0] rfl (ih29 ((e31.1, e31.2, v28.2.2 + (1 : Int32)) : Int32 × Int32 × Int32) hf)
    · skip
      refine s_loop (α := Int32 × Int32 × Int32) (fun n v32 => f_X6_biteFor_26 a1 a2 a3 v28.2.2 m_kind m_figure k30 n v32.1 v32.2.1 v32.2.2) 26 (fun v32 => [(0, .ref (ad 0)), (1, .int a1), (2, .int a2), (3, .int a3), (4, .int v32.1), (5, .int v32.2.1), (6, .int v28.2.2), (7, .int v32.2.2)]) (fun v32 => (wM ad cI m_left m_bites m_many m_imageLeft m_imageBites m_imageMany m_wasLeft m_wasBites m_wasMany m_hasImage m_letterMany m_rowMany m_place m_seed m_kind m_figure m_imageKind m_imageFigure m_wasKind m_wasFigure m_letters m_row m_refused m_numbers m_counted m_few)) 1000 (v28.1, v28.2.1, (0 : Int32)) hf (fun v32 hf => by simp only [f_X6_biteFor_26] at hf; exact absurd hf (by simp)) (fun n ih33 v32 hf => ?_)
      replace hf := (f_X6_biteFor_26_s _ _ _ _ _ _ _ _ _ _ _).symm.trans hf
      refine s_iload C 28 7 rfl dX6_biteFor_26 rfl ?_
      refine s_bipush C 30 rfl dX6_biteFor_28 bp_25 ?_
      refine s_icmp_ge C 97 33 rfl dX6_biteFor_30 rfl (fun hc43 => ?_) (fun hc43 => ?_)
      · replace hf := ite_t hc43 hf
        exact s_lv [0, 1, 2, 3, 4, 5, 6] rfl (hk30 ((v32.1, v32.2.1) : Int32 × Int32) hf)
      · replace hf := ite_f hc43 hf
        refine s_iload_n C 34 1 rfl dX6_biteFor_33 rfl ?_
        refine s_iload C 36 6 rfl dX6_biteFor_34 rfl ?_
        refine s_iload C 38 7 rfl dX6_biteFor_36 rfl ?_
        obtain ⟨r34, q35, hf⟩ := bn_s hf
        refine s_callS0 (host := "") (rest := []) C 41 (c_X6_canBite l D cI adK adV a1 v28.2.2 v32.2.2 r34 q35) (gS uu1126 uu1128 uu6 uu1129) hd_X6_canBite rfl ⟨rfl, rfl⟩ ⟨Nat.le_of_ble_eq_true rfl, Nat.le_of_ble_eq_true rfl⟩ ⟨Nat.le_of_ble_eq_true rfl, Nat.le_of_ble_eq_true rfl⟩ rfl (Nat.le_of_ble_eq_true rfl) rfl dX6_biteFor_38 ?_
        refine s_bn (α := Int32 × Int32) 91 (fun j36 => [(0, .ref (ad 0)), (1, .int a1), (2, .int a2), (3, .int a3), (4, .int j36.1), (5, .int j36.2), (6, .int v28.2.2), (7, .int v32.2.2)]) (fun j36 => []) (fun j36 => (wM ad cI m_left m_bites m_many m_imageLeft m_imageBites m_imageMany m_wasLeft m_wasBites m_wasMany m_hasImage m_letterMany m_rowMany m_place m_seed m_kind m_figure m_imageKind m_imageFigure m_wasKind m_wasFigure m_letters m_row m_refused m_numbers m_counted m_few)) hf (fun j36 hf => ?_) (fun hj hf => ?_)
        · refine s_iinc (lv1 := [(7, .int (v32.2.2 + (1 : Int32))), (0, .ref (ad 0)), (1, .int a1), (2, .int a2), (3, .int a3), (4, .int j36.1), (5, .int j36.2), (6, .int v28.2.2)]) C 94 7 7 rfl dX6_biteFor_91 rfl ic_1 (Nat.le_of_ble_eq_true rfl) rfl ?_
          refine s_goto C 26 dX6_biteFor_94 rfl ?_
          exact s_lv [1, 2, 3, 4, 5, 6, 7, 0] rfl (ih33 ((j36.1, j36.2, v32.2.2 + (1 : Int32)) : Int32 × Int32 × Int32) hf)
        · refine s_if_ne C 47 44 rfl dX6_biteFor_41 rfl (fun hc42 => ?_) (fun hc42 => ?_)
          · replace hf := bn_f hc42 hf
            refine s_iload_n C 48 3 rfl dX6_biteFor_47 rfl ?_
            refine s_aload_n C 49 0 rfl dX6_biteFor_48 rfl ?_
            refine s_iload_n C 50 1 rfl dX6_biteFor_49 rfl ?_
            refine s_iload C 52 6 rfl dX6_biteFor_50 rfl ?_
            refine s_iload C 54 7 rfl dX6_biteFor_52 rfl ?_
            obtain ⟨r37, q38, hf⟩ := bn_b hf
            refine s_callS0 (host := "") (rest := [.int a1, .ref (ad 0), .int a3]) C 57 (c_X6_bite l D cI adK adV v28.2.2 v32.2.2 r37 q38) (gS uu1131 uu1133 uu6 uu1134) hd_X6_bite rfl ⟨rfl, rfl⟩ ⟨Nat.le_of_ble_eq_true rfl, Nat.le_of_ble_eq_true rfl⟩ ⟨Nat.le_of_ble_eq_true rfl, Nat.le_of_ble_eq_true rfl⟩ rfl (Nat.le_of_ble_eq_true rfl) rfl dX6_biteFor_54 ?_
            refine s_iconst C 58 rfl dX6_biteFor_57 ic_m1 ?_
            refine s_ixor C 59 rfl dX6_biteFor_58 ?_
            refine s_iand C 60 rfl dX6_biteFor_59 ?_
            refine s_iload_n C 61 2 rfl dX6_biteFor_60 rfl ?_
            obtain ⟨r39, q40, hf⟩ := bn_b hf
            refine s_callW (T := TX6) (N := 26) (ci := 5) (q0 := 0) (rest := [.int a3]) C 64 (c_X6_shareOf l D cI adK adV ad m_left m_bites m_many m_imageLeft m_imageBites m_imageMany m_wasLeft m_wasBites m_wasMany m_hasImage m_letterMany m_rowMany m_place m_seed m_kind m_figure m_imageKind m_imageFigure m_wasKind m_wasFigure m_letters m_row m_refused m_numbers m_counted m_few (a1 &&& (r37 ^^^ (-1 : Int32))) a2 r39 q40) (gV uu1198 uu1200 uu1582 uu6 uu1201) hd_X6_shareOf rfl ⟨rfl, rfl⟩ ⟨Nat.le_of_ble_eq_true rfl, Nat.le_of_ble_eq_true rfl⟩ ⟨Nat.le_of_ble_eq_true rfl, Nat.le_of_ble_eq_true rfl⟩ rfl rfl rfl (Nat.le_of_ble_eq_true rfl) rfl dX6_biteFor_61 (fun _ => ?_)
            refine s_imul C 65 rfl dX6_biteFor_64 ?_
            refine s_istore (lv1 := [(8, .int (a3 * r39)), (0, .ref (ad 0)), (1, .int a1), (2, .int a2), (3, .int a3), (4, .int v32.1), (5, .int v32.2.1), (6, .int v28.2.2), (7, .int v32.2.2)]) C 67 8 rfl dX6_biteFor_65 (Nat.le_of_ble_eq_true rfl) rfl ?_
            refine s_iload C 69 0 rfl dX6_biteFor_67 rfl ?_
            refine s_iload C 71 6 rfl dX6_biteFor_69 rfl ?_
            refine s_icmp_gt C 77 74 rfl dX6_biteFor_71 rfl (fun hc41 => ?_) (fun hc41 => ?_)
            · replace hf := bn_t hc41 hf
              refine s_bipush C 79 rfl dX6_biteFor_77 bp_100 ?_
              refine s_iload C 81 7 rfl dX6_biteFor_79 rfl ?_
              refine s_imul C 82 rfl dX6_biteFor_81 ?_
              refine s_iload C 84 8 rfl dX6_biteFor_82 rfl ?_
              refine s_iadd C 85 rfl dX6_biteFor_84 ?_
              refine s_istore (lv1 := [(4, .int (((100 : Int32) * v28.2.2) + v32.2.2)), (8, .int (a3 * r39)), (0, .ref (ad 0)), (1, .int a1), (2, .int a2), (3, .int a3), (5, .int v32.2.1), (6, .int v28.2.2), (7, .int v32.2.2)]) C 87 4 rfl dX6_biteFor_85 (Nat.le_of_ble_eq_true rfl) rfl ?_
              refine s_iload C 89 1 rfl dX6_biteFor_87 rfl ?_
              refine s_istore (lv1 := [(5, .int (a3 * r39)), (4, .int (((100 : Int32) * v28.2.2) + v32.2.2)), (8, .int (a3 * r39)), (0, .ref (ad 0)), (1, .int a1), (2, .int a2), (3, .int a3), (6, .int v28.2.2), (7, .int v32.2.2)]) C 91 5 rfl dX6_biteFor_89 (Nat.le_of_ble_eq_true rfl) rfl ?_
              replace hf := bn_i hf
              exact s_lv [3, 4, 5, 6, 1, 0, 7, 8] rfl (hj ((((100 : Int32) * v28.2.2) + v32.2.2, a3 * r39) : Int32 × Int32) hf)
            · replace hf := bn_f hc41 hf
              refine s_goto C 91 dX6_biteFor_74 rfl ?_
              replace hf := bn_i hf
              exact s_lv [1, 2, 3, 4, 5, 6, 7, 8] rfl (hj ((v32.1, v32.2.1) : Int32 × Int32) hf)
          · replace hf := bn_t hc42 hf
            refine s_goto C 91 dX6_biteFor_44 rfl ?_
            replace hf := bn_i hf
            exact s_lv [0, 1, 2, 3, 4, 5, 6, 7] rfl (hj ((v32.1, v32.2.1) : Int32 × Int32) hf)


theorem hd_X6_biteTold : yX6_biteTold.cls = RX6 ∧ yX6_biteTold.cls ≠ "java/lang/invoke/MethodHandle" ∧ yX6_biteTold.cls ≠ "java/lang/invoke/VarHandle" ∧ (parseMethodDescriptor yX6_biteTold.desc).map (fun d => d.parameters.length) = some 3 := by decide +kernel
set_option maxHeartbeats 4000000 in
set_option maxRecDepth 100000 in
theorem c_X6_biteTold (l : Launch) (D : va_G) (cI : ClassId) (adK adV : Nat → Nat) (ad : Nat → Nat) (m_left : Int32) (m_bites : Int32) (m_many : Int32) (m_imageLeft : Int32) (m_imageBites : Int32) (m_imageMany : Int32) (m_wasLeft : Int32) (m_wasBites : Int32) (m_wasMany : Int32) (m_hasImage : Int32) (m_letterMany : Int32) (m_rowMany : Int32) (m_place : Int32) (m_seed : Int32) (m_kind : (Nat → Int32)) (m_figure : (Nat → Int32)) (m_imageKind : (Nat → Int32)) (m_imageFigure : (Nat → Int32)) (m_wasKind : (Nat → Int32)) (m_wasFigure : (Nat → Int32)) (m_letters : (Nat → Int32)) (m_row : (Nat → Int32)) (m_refused : (Nat → Int32)) (m_numbers : (Nat → Int32)) (m_counted : (Nat → Int32)) (m_few : (Nat → Int32)) (a1 : Int32) (a2 : Int32) (a3 : Int32) (o : Int32 × (Nat → Int32)) (hf : f_X6_biteTold m_left m_many m_kind m_figure m_refused a1 a2 a3 = some o) : Ct l D cI adK adV yX6_biteTold (wy yX6_biteTold cX6_biteTold 5 (some .int)) { frames := 6, cells := 0, slots := 0, locals := 145 } 0 0 [.ref (ad 0), .int a1, .int a2, .int a3] (wM ad cI m_left m_bites m_many m_imageLeft m_imageBites m_imageMany m_wasLeft m_wasBites m_wasMany m_hasImage m_letterMany m_rowMany m_place m_seed m_kind m_figure m_imageKind m_imageFigure m_wasKind m_wasFigure m_letters m_row m_refused m_numbers m_counted m_few) (fun _ => (wM ad cI m_left m_bites m_many m_imageLeft m_imageBites m_imageMany m_wasLeft m_wasBites m_wasMany m_hasImage m_letterMany m_rowMany m_place m_seed m_kind m_figure m_imageKind m_imageFigure m_wasKind m_wasFigure m_letters m_row o.2 m_numbers m_counted m_few)) (some (.int o.1)) := by
  refine Ct.of (cc := cX6_biteTold) (nL := 5) (ret := (some .int)) (own := RX6) (by decide) (Nat.le_of_ble_eq_true rfl) rfl ?_
  intro p e s m args below meth c A C hr hlk hnm
  refine s_lv (lv1 := [(0, .ref (ad 0)), (1, .int a1), (2, .int a2), (3, .int a3)]) [0, 1, 2, 3] rfl ?_
  unfold f_X6_biteTold at hf
  refine s_aload_n C 1 0 rfl dX6_biteTold_0 rfl ?_
  refine s_iload_n C 2 1 rfl dX6_biteTold_1 rfl ?_
  obtain ⟨r1, q2, hf⟩ := bn_s hf
  refine s_callW (T := TX6) (N := 26) (ci := 5) (q0 := 0) (rest := []) C 5 (c_X6_isHeir l D cI adK adV ad m_left m_bites m_many m_imageLeft m_imageBites m_imageMany m_wasLeft m_wasBites m_wasMany m_hasImage m_letterMany m_rowMany m_place m_seed m_kind m_figure m_imageKind m_imageFigure m_wasKind m_wasFigure m_letters m_row m_refused m_numbers m_counted m_few a1 r1 q2) (gV uu1193 uu1195 uu1581 uu6 uu1196) hd_X6_isHeir rfl ⟨rfl, rfl⟩ ⟨Nat.le_of_ble_eq_true rfl, Nat.le_of_ble_eq_true rfl⟩ ⟨Nat.le_of_ble_eq_true rfl, Nat.le_of_ble_eq_true rfl⟩ rfl rfl rfl (Nat.le_of_ble_eq_true rfl) rfl dX6_biteTold_2 (fun _ => ?_)
  refine s_if_ne C 14 8 rfl dX6_biteTold_5 rfl (fun hc18 => ?_) (fun hc18 => ?_)
  · replace hf := ite_f hc18 hf
    refine s_iload_n C 15 2 rfl dX6_biteTold_14 rfl ?_
    refine s_iconst C 16 rfl dX6_biteTold_15 ic_0 ?_
    refine s_iconst C 17 rfl dX6_biteTold_16 ic_1 ?_
    obtain ⟨r3, q4, hf⟩ := bn_s hf
    refine s_callS0 (host := "") (rest := []) C 20 (c_X6_isIn l D cI adK adV a2 (0 : Int32) (1 : Int32) r3 q4) (gS uu1106 uu1108 uu6 uu1109) hd_X6_isIn rfl ⟨rfl, rfl⟩ ⟨Nat.le_of_ble_eq_true rfl, Nat.le_of_ble_eq_true rfl⟩ ⟨Nat.le_of_ble_eq_true rfl, Nat.le_of_ble_eq_true rfl⟩ rfl (Nat.le_of_ble_eq_true rfl) rfl dX6_biteTold_17 ?_
    refine s_if_ne C 30 23 rfl dX6_biteTold_20 rfl (fun hc15 => ?_) (fun hc15 => ?_)
    · replace hf := ite_f hc15 hf
      refine s_aload_n C 31 0 rfl dX6_biteTold_30 rfl ?_
      refine s_aload_n C 32 0 rfl dX6_biteTold_31 rfl ?_
      refine s_get (C1 := RX6) (T := TX6) (N := 26) (ci := 5) C 35 0 0 uX6 rfl rfl (Nat.le_of_ble_eq_true rfl) uu986 rfl rfl rfl dX6_biteTold_32 ?_
      refine s_iload_n C 36 1 rfl dX6_biteTold_35 rfl ?_
      refine s_iload_n C 37 3 rfl dX6_biteTold_36 rfl ?_
      obtain ⟨r5, q6, hf⟩ := bn_s hf
      refine s_callW (T := TX6) (N := 26) (ci := 5) (q0 := 0) (rest := []) C 40 (c_X6_biteFor l D cI adK adV ad m_left m_bites m_many m_imageLeft m_imageBites m_imageMany m_wasLeft m_wasBites m_wasMany m_hasImage m_letterMany m_rowMany m_place m_seed m_kind m_figure m_imageKind m_imageFigure m_wasKind m_wasFigure m_letters m_row m_refused m_numbers m_counted m_few m_left a1 a3 r5 q6) (gV uu1312 uu1314 uu1585 uu6 uu1315) hd_X6_biteFor rfl ⟨rfl, rfl⟩ ⟨Nat.le_of_ble_eq_true rfl, Nat.le_of_ble_eq_true rfl⟩ ⟨Nat.le_of_ble_eq_true rfl, Nat.le_of_ble_eq_true rfl⟩ rfl rfl rfl (Nat.le_of_ble_eq_true rfl) rfl dX6_biteTold_37 (fun _ => ?_)
      refine s_istore (lv1 := [(4, .int r5), (0, .ref (ad 0)), (1, .int a1), (2, .int a2), (3, .int a3)]) C 42 4 rfl dX6_biteTold_40 (Nat.le_of_ble_eq_true rfl) rfl ?_
      refine s_iload C 44 0 rfl dX6_biteTold_42 rfl ?_
      refine s_if_lt C 51 47 rfl dX6_biteTold_44 rfl (fun hc12 => ?_) (fun hc12 => ?_)
      · replace hf := ite_t hc12 hf
        refine s_iload C 53 0 rfl dX6_biteTold_51 rfl ?_
        refine s_goto C 70 dX6_biteTold_53 rfl ?_
        obtain rfl := Option.some.inj hf
        exact s_iret C (fun i => i) hr hlk rfl rfl dX6_biteTold_70
      · replace hf := ite_f hc12 hf
        refine s_iload_n C 48 3 rfl dX6_biteTold_47 rfl ?_
        refine s_if_ne C 56 51 rfl dX6_biteTold_48 rfl (fun hc11 => ?_) (fun hc11 => ?_)
        · replace hf := ite_f hc11 hf
          refine s_aload_n C 57 1 rfl dX6_biteTold_56 rfl ?_
          refine s_aload_n C 58 1 rfl dX6_biteTold_57 rfl ?_
          refine s_get (C1 := RX6) (T := TX6) (N := 26) (ci := 5) C 61 0 0 uX6 rfl rfl (Nat.le_of_ble_eq_true rfl) uu986 rfl rfl rfl dX6_biteTold_58 ?_
          refine s_iload C 63 0 rfl dX6_biteTold_61 rfl ?_
          obtain ⟨r7, q8, hf⟩ := bn_s hf
          refine s_callS0 (host := "") (rest := [.ref (ad 0)]) C 66 (c_X6_after l D cI adK adV m_left r5 r7 q8) (gS uu1317 uu1319 uu6 uu1320) hd_X6_after rfl ⟨rfl, rfl⟩ ⟨Nat.le_of_ble_eq_true rfl, Nat.le_of_ble_eq_true rfl⟩ ⟨Nat.le_of_ble_eq_true rfl, Nat.le_of_ble_eq_true rfl⟩ rfl (Nat.le_of_ble_eq_true rfl) rfl dX6_biteTold_63 ?_
          refine s_iload_n C 67 2 rfl dX6_biteTold_66 rfl ?_
          obtain ⟨r9, q10, hf⟩ := bn_s hf
          refine s_callW (T := TX6) (N := 26) (ci := 5) (q0 := 0) (rest := []) C 70 (c_X6_shareOf l D cI adK adV ad m_left m_bites m_many m_imageLeft m_imageBites m_imageMany m_wasLeft m_wasBites m_wasMany m_hasImage m_letterMany m_rowMany m_place m_seed m_kind m_figure m_imageKind m_imageFigure m_wasKind m_wasFigure m_letters m_row m_refused m_numbers m_counted m_few r7 a1 r9 q10) (gV uu1198 uu1200 uu1582 uu6 uu1201) hd_X6_shareOf rfl ⟨rfl, rfl⟩ ⟨Nat.le_of_ble_eq_true rfl, Nat.le_of_ble_eq_true rfl⟩ ⟨Nat.le_of_ble_eq_true rfl, Nat.le_of_ble_eq_true rfl⟩ rfl rfl rfl (Nat.le_of_ble_eq_true rfl) rfl dX6_biteTold_67 (fun _ => ?_)
          obtain rfl := Option.some.inj hf
          exact s_iret C (fun i => i) hr hlk rfl rfl dX6_biteTold_70
        · replace hf := ite_t hc11 hf
          refine s_iload C 53 0 rfl dX6_biteTold_51 rfl ?_
          refine s_goto C 70 dX6_biteTold_53 rfl ?_
          obtain rfl := Option.some.inj hf
          exact s_iret C (fun i => i) hr hlk rfl rfl dX6_biteTold_70
    · replace hf := ite_t hc15 hf
      refine s_aload_n C 24 0 rfl dX6_biteTold_23 rfl ?_
      refine s_bipush C 26 rfl dX6_biteTold_24 bp_m2 ?_
      obtain ⟨r13, q14, hf⟩ := bn_s hf
      refine s_callW (T := TX6) (N := 26) (ci := 5) (q0 := 0) (rest := []) C 29 (c_X6_no l D cI adK adV ad m_left m_bites m_many m_imageLeft m_imageBites m_imageMany m_wasLeft m_wasBites m_wasMany m_hasImage m_letterMany m_rowMany m_place m_seed m_kind m_figure m_imageKind m_imageFigure m_wasKind m_wasFigure m_letters m_row m_refused m_numbers m_counted m_few (-2 : Int32) r13 q14) (gV uu1070 uu1072 uu1571 uu6 uu1073) hd_X6_no rfl ⟨rfl, rfl⟩ ⟨Nat.le_of_ble_eq_true rfl, Nat.le_of_ble_eq_true rfl⟩ ⟨Nat.le_of_ble_eq_true rfl, Nat.le_of_ble_eq_true rfl⟩ rfl rfl rfl (Nat.le_of_ble_eq_true rfl) rfl dX6_biteTold_26 (fun _ => ?_)
      obtain rfl := Option.some.inj hf
      exact s_iret C (fun i => i) hr hlk rfl rfl dX6_biteTold_29
  · replace hf := ite_t hc18 hf
    refine s_aload_n C 9 0 rfl dX6_biteTold_8 rfl ?_
    refine s_iconst C 10 rfl dX6_biteTold_9 ic_m1 ?_
    obtain ⟨r16, q17, hf⟩ := bn_s hf
    refine s_callW (T := TX6) (N := 26) (ci := 5) (q0 := 0) (rest := []) C 13 (c_X6_no l D cI adK adV ad m_left m_bites m_many m_imageLeft m_imageBites m_imageMany m_wasLeft m_wasBites m_wasMany m_hasImage m_letterMany m_rowMany m_place m_seed m_kind m_figure m_imageKind m_imageFigure m_wasKind m_wasFigure m_letters m_row m_refused m_numbers m_counted m_few (-1 : Int32) r16 q17) (gV uu1070 uu1072 uu1571 uu6 uu1073) hd_X6_no rfl ⟨rfl, rfl⟩ ⟨Nat.le_of_ble_eq_true rfl, Nat.le_of_ble_eq_true rfl⟩ ⟨Nat.le_of_ble_eq_true rfl, Nat.le_of_ble_eq_true rfl⟩ rfl rfl rfl (Nat.le_of_ble_eq_true rfl) rfl dX6_biteTold_10 (fun _ => ?_)
    obtain rfl := Option.some.inj hf
    exact s_iret C (fun i => i) hr hlk rfl rfl dX6_biteTold_13


theorem hd_X6_isSoBy : yX6_isSoBy.cls = RX6 ∧ yX6_isSoBy.cls ≠ "java/lang/invoke/MethodHandle" ∧ yX6_isSoBy.cls ≠ "java/lang/invoke/VarHandle" ∧ (parseMethodDescriptor yX6_isSoBy.desc).map (fun d => d.parameters.length) = some 4 := by decide +kernel
set_option maxHeartbeats 4000000 in
set_option maxRecDepth 100000 in
theorem c_X6_isSoBy_0 (l : Launch) (D : va_G) (cI : ClassId) (adK adV : Nat → Nat) (ad : Nat → Nat) (m_left : Int32) (m_bites : Int32) (m_many : Int32) (m_imageLeft : Int32) (m_imageBites : Int32) (m_imageMany : Int32) (m_wasLeft : Int32) (m_wasBites : Int32) (m_wasMany : Int32) (m_hasImage : Int32) (m_letterMany : Int32) (m_rowMany : Int32) (m_place : Int32) (m_seed : Int32) (m_kind : (Nat → Int32)) (m_figure : (Nat → Int32)) (m_imageKind : (Nat → Int32)) (m_imageFigure : (Nat → Int32)) (m_wasKind : (Nat → Int32)) (m_wasFigure : (Nat → Int32)) (m_letters : (Nat → Int32)) (m_row : (Nat → Int32)) (m_refused : (Nat → Int32)) (m_numbers : (Nat → Int32)) (m_counted : (Nat → Int32)) (m_few : (Nat → Int32)) (a1 : Int32) (a2 : Int32) (a3 : Int32) (a4 : Int32) (o : Int32) (hf : f_X6_isSoBy_0 m_kind m_figure a1 a2 a3 a4 = some o) : Ct l D cI adK adV yX6_isSoBy (wy yX6_isSoBy cX6_isSoBy 7 (some .boolean)) { frames := 5, cells := 0, slots := 0, locals := 117 } 0 0 [.ref (ad 0), .int a1, .int a2, .int a3, .int a4] (wM ad cI m_left m_bites m_many m_imageLeft m_imageBites m_imageMany m_wasLeft m_wasBites m_wasMany m_hasImage m_letterMany m_rowMany m_place m_seed m_kind m_figure m_imageKind m_imageFigure m_wasKind m_wasFigure m_letters m_row m_refused m_numbers m_counted m_few) (fun _ => (wM ad cI m_left m_bites m_many m_imageLeft m_imageBites m_imageMany m_wasLeft m_wasBites m_wasMany m_hasImage m_letterMany m_rowMany m_place m_seed m_kind m_figure m_imageKind m_imageFigure m_wasKind m_wasFigure m_letters m_row m_refused m_numbers m_counted m_few)) (some (.int o)) := by
  refine Ct.of (cc := cX6_isSoBy) (nL := 7) (ret := (some .boolean)) (own := RX6) (by decide) (Nat.le_of_ble_eq_true rfl) rfl ?_
  intro p e s m args below meth c A C hr hlk hnm
  refine s_lv (lv1 := [(0, .ref (ad 0)), (1, .int a1), (2, .int a2), (3, .int a3), (4, .int a4)]) [0, 1, 2, 3, 4] rfl ?_
  unfold f_X6_isSoBy_0 at hf
  refine s_iload C 2 4 rfl dX6_isSoBy_0 rfl ?_
  refine s_if_ne C 21 5 rfl dX6_isSoBy_2 rfl (fun hc37 => ?_) (fun hc37 => ?_)
  · replace hf := ite_f hc37 hf
    refine s_iconst C 22 rfl dX6_isSoBy_21 ic_0 ?_
    refine s_istore (lv1 := [(5, .int (0 : Int32)), (0, .ref (ad 0)), (1, .int a1), (2, .int a2), (3, .int a3), (4, .int a4)]) C 24 5 rfl dX6_isSoBy_22 (Nat.le_of_ble_eq_true rfl) rfl ?_
    refine s_lv (lv1 := [(0, .ref (ad 0)), (1, .int a1), (2, .int a2), (3, .int a3), (4, .int a4), (5, .int (0 : Int32))]) [1, 2, 3, 4, 5, 0] rfl ?_
    refine s_loop (α := Int32) (fun n v20 => f_X6_isSoBy_0_24 a1 n v20) 24 (fun v20 => [(0, .ref (ad 0)), (1, .int a1), (2, .int a2), (3, .int a3), (4, .int a4), (5, .int v20)]) (fun v20 => (wM ad cI m_left m_bites m_many m_imageLeft m_imageBites m_imageMany m_wasLeft m_wasBites m_wasMany m_hasImage m_letterMany m_rowMany m_place m_seed m_kind m_figure m_imageKind m_imageFigure m_wasKind m_wasFigure m_letters m_row m_refused m_numbers m_counted m_few)) 1000 (0 : Int32) hf (fun v20 hf => by simp only [f_X6_isSoBy_0_24] at hf; exact absurd hf (by simp)) (fun n ih21 v20 hf => ?_)
    replace hf := (f_X6_isSoBy_0_24_s _ _ _).symm.trans hf
    refine s_iload C 26 5 rfl dX6_isSoBy_24 rfl ?_
    refine s_iconst C 27 rfl dX6_isSoBy_26 ic_4 ?_
    refine s_icmp_ge C 89 30 rfl dX6_isSoBy_27 rfl (fun hc33 => ?_) (fun hc33 => ?_)
    · replace hf := ite_t hc33 hf
      refine s_iconst C 90 rfl dX6_isSoBy_89 ic_0 ?_
      obtain rfl := Option.some.inj hf
      exact s_zret C (fun i => i) hr hlk (Or.inl rfl) rfl rfl dX6_isSoBy_90
    · replace hf := ite_f hc33 hf
      refine s_iconst C 31 rfl dX6_isSoBy_30 ic_0 ?_
      refine s_istore (lv1 := [(6, .int (0 : Int32)), (0, .ref (ad 0)), (1, .int a1), (2, .int a2), (3, .int a3), (4, .int a4), (5, .int v20)]) C 33 6 rfl dX6_isSoBy_31 (Nat.le_of_ble_eq_true rfl) rfl ?_
      refine s_lv (lv1 := [(0, .ref (ad 0)), (1, .int a1), (2, .int a2), (3, .int a3), (4, .int a4), (5, .int v20), (6, .int (0 : Int32))]) [1, 2, 3, 4, 5, 6, 0] rfl ?_
      refine s_kont (γ := Unit) (o := o) (fun KQ => f_X6_isSoBy_0_33 a1 v20 KQ 1000 (0 : Int32) = some o) 83 (fun e23 => [(0, .ref (ad 0)), (1, .int a1), (2, .int a2), (3, .int a3), (4, .int a4), (5, .int v20)]) (fun e23 => []) (fun e23 => (wM ad cI m_left m_bites m_many m_imageLeft m_imageBites m_imageMany m_wasLeft m_wasBites m_wasMany m_hasImage m_letterMany m_rowMany m_place m_seed m_kind m_figure m_imageKind m_imageFigure m_wasKind m_wasFigure m_letters m_row m_refused m_numbers m_counted m_few)) hf (fun e23 hf => ?_) (fun k22 hk22 hf => ?_)
      · refine s_iinc (lv1 := [(5, .int (v20 + (1 : Int32))), (0, .ref (ad 0)), (1, .int a1), (2, .int a2), (3, .int a3), (4, .int a4)]) C 86 5 5 rfl dX6_isSoBy_83 rfl ic_1 (Nat.le_of_ble_eq_true rfl) rfl ?_
        refine s_goto C 24 dX6_isSoBy_86 rfl ?_
        exact s_lv [1, 2, 3, 4, 5, 0] rfl (ih21 (v20 + (1 : Int32) : Int32) hf)
      · skip
        refine s_loop (α := Int32) (fun n v24 => f_X6_isSoBy_0_33 a1 v20 k22 n v24) 33 (fun v24 => [(0, .ref (ad 0)), (1, .int a1), (2, .int a2), (3, .int a3), (4, .int a4), (5, .int v20), (6, .int v24)]) (fun v24 => (wM ad cI m_left m_bites m_many m_imageLeft m_imageBites m_imageMany m_wasLeft m_wasBites m_wasMany m_hasImage m_letterMany m_rowMany m_place m_seed m_kind m_figure m_imageKind m_imageFigure m_wasKind m_wasFigure m_letters m_row m_refused m_numbers m_counted m_few)) 1000 (0 : Int32) hf (fun v24 hf => by simp only [f_X6_isSoBy_0_33] at hf; exact absurd hf (by simp)) (fun n ih25 v24 hf => ?_)
        replace hf := (f_X6_isSoBy_0_33_s _ _ _ _ _).symm.trans hf
        refine s_iload C 35 6 rfl dX6_isSoBy_33 rfl ?_
        refine s_bipush C 37 rfl dX6_isSoBy_35 bp_25 ?_
        refine s_icmp_ge C 83 40 rfl dX6_isSoBy_37 rfl (fun hc32 => ?_) (fun hc32 => ?_)
        · replace hf := ite_t hc32 hf
          exact s_lv [0, 1, 2, 3, 4, 5] rfl (hk22 (() : Unit) hf)
        · replace hf := ite_f hc32 hf
          refine s_iload_n C 41 1 rfl dX6_isSoBy_40 rfl ?_
          refine s_iload C 43 5 rfl dX6_isSoBy_41 rfl ?_
          refine s_iload C 45 6 rfl dX6_isSoBy_43 rfl ?_
          obtain ⟨r26, q27, hf⟩ := bn_s hf
          refine s_callS0 (host := "") (rest := []) C 48 (c_X6_canBite l D cI adK adV a1 v20 v24 r26 q27) (gS uu1126 uu1128 uu6 uu1129) hd_X6_canBite rfl ⟨rfl, rfl⟩ ⟨Nat.le_of_ble_eq_true rfl, Nat.le_of_ble_eq_true rfl⟩ ⟨Nat.le_of_ble_eq_true rfl, Nat.le_of_ble_eq_true rfl⟩ rfl (Nat.le_of_ble_eq_true rfl) rfl dX6_isSoBy_45 ?_
          refine s_if_eq C 77 51 rfl dX6_isSoBy_48 rfl (fun hc31 => ?_) (fun hc31 => ?_)
          · replace hf := ite_t hc31 hf
            refine s_iinc (lv1 := [(6, .int (v24 + (1 : Int32))), (0, .ref (ad 0)), (1, .int a1), (2, .int a2), (3, .int a3), (4, .int a4), (5, .int v20)]) C 80 6 6 rfl dX6_isSoBy_77 rfl ic_1 (Nat.le_of_ble_eq_true rfl) rfl ?_
            refine s_goto C 33 dX6_isSoBy_80 rfl ?_
            exact s_lv [1, 2, 3, 4, 5, 6, 0] rfl (ih25 (v24 + (1 : Int32) : Int32) hf)
          · replace hf := ite_f hc31 hf
            refine s_aload_n C 52 0 rfl dX6_isSoBy_51 rfl ?_
            refine s_iload_n C 53 1 rfl dX6_isSoBy_52 rfl ?_
            refine s_iload C 55 5 rfl dX6_isSoBy_53 rfl ?_
            refine s_iload C 57 6 rfl dX6_isSoBy_55 rfl ?_
            obtain ⟨r28, q29, hf⟩ := bn_s hf
            refine s_callS0 (host := "") (rest := [.int a1, .ref (ad 0)]) C 60 (c_X6_bite l D cI adK adV v20 v24 r28 q29) (gS uu1131 uu1133 uu6 uu1134) hd_X6_bite rfl ⟨rfl, rfl⟩ ⟨Nat.le_of_ble_eq_true rfl, Nat.le_of_ble_eq_true rfl⟩ ⟨Nat.le_of_ble_eq_true rfl, Nat.le_of_ble_eq_true rfl⟩ rfl (Nat.le_of_ble_eq_true rfl) rfl dX6_isSoBy_57 ?_
            refine s_iconst C 61 rfl dX6_isSoBy_60 ic_m1 ?_
            refine s_ixor C 62 rfl dX6_isSoBy_61 ?_
            refine s_iand C 63 rfl dX6_isSoBy_62 ?_
            refine s_iload_n C 64 2 rfl dX6_isSoBy_63 rfl ?_
            refine s_iload_n C 65 3 rfl dX6_isSoBy_64 rfl ?_
            refine s_iload C 67 4 rfl dX6_isSoBy_65 rfl ?_
            refine s_iconst C 68 rfl dX6_isSoBy_67 ic_1 ?_
            refine s_isub C 69 rfl dX6_isSoBy_68 ?_
            cases hf
  · replace hf := ite_t hc37 hf
    refine s_aload_n C 6 0 rfl dX6_isSoBy_5 rfl ?_
    refine s_iload_n C 7 1 rfl dX6_isSoBy_6 rfl ?_
    refine s_iload_n C 8 2 rfl dX6_isSoBy_7 rfl ?_
    obtain ⟨r34, q35, hf⟩ := bn_s hf
    refine s_callW (T := TX6) (N := 26) (ci := 5) (q0 := 0) (rest := []) C 11 (c_X6_shareOf l D cI adK adV ad m_left m_bites m_many m_imageLeft m_imageBites m_imageMany m_wasLeft m_wasBites m_wasMany m_hasImage m_letterMany m_rowMany m_place m_seed m_kind m_figure m_imageKind m_imageFigure m_wasKind m_wasFigure m_letters m_row m_refused m_numbers m_counted m_few a1 a2 r34 q35) (gV uu1198 uu1200 uu1582 uu6 uu1201) hd_X6_shareOf rfl ⟨rfl, rfl⟩ ⟨Nat.le_of_ble_eq_true rfl, Nat.le_of_ble_eq_true rfl⟩ ⟨Nat.le_of_ble_eq_true rfl, Nat.le_of_ble_eq_true rfl⟩ rfl rfl rfl (Nat.le_of_ble_eq_true rfl) rfl dX6_isSoBy_8 (fun _ => ?_)
    refine s_iload_n C 12 3 rfl dX6_isSoBy_11 rfl ?_
    refine s_icmp_lt C 19 15 rfl dX6_isSoBy_12 rfl (fun hc36 => ?_) (fun hc36 => ?_)
    · replace hf := ite_t hc36 hf
      refine s_iconst C 20 rfl dX6_isSoBy_19 ic_0 ?_
      obtain rfl := Option.some.inj hf
      exact s_zret C (fun i => i) hr hlk (Or.inl rfl) rfl rfl dX6_isSoBy_20
    · replace hf := ite_f hc36 hf
      refine s_iconst C 16 rfl dX6_isSoBy_15 ic_1 ?_
      refine s_goto C 20 dX6_isSoBy_16 rfl ?_
      obtain rfl := Option.some.inj hf
      exact s_zret C (fun i => i) hr hlk (Or.inr rfl) rfl rfl dX6_isSoBy_20



set_option maxHeartbeats 4000000 in
set_option maxRecDepth 100000 in
theorem c_X6_isSoBy_1 (l : Launch) (D : va_G) (cI : ClassId) (adK adV : Nat → Nat) (ad : Nat → Nat) (m_left : Int32) (m_bites : Int32) (m_many : Int32) (m_imageLeft : Int32) (m_imageBites : Int32) (m_imageMany : Int32) (m_wasLeft : Int32) (m_wasBites : Int32) (m_wasMany : Int32) (m_hasImage : Int32) (m_letterMany : Int32) (m_rowMany : Int32) (m_place : Int32) (m_seed : Int32) (m_kind : (Nat → Int32)) (m_figure : (Nat → Int32)) (m_imageKind : (Nat → Int32)) (m_imageFigure : (Nat → Int32)) (m_wasKind : (Nat → Int32)) (m_wasFigure : (Nat → Int32)) (m_letters : (Nat → Int32)) (m_row : (Nat → Int32)) (m_refused : (Nat → Int32)) (m_numbers : (Nat → Int32)) (m_counted : (Nat → Int32)) (m_few : (Nat → Int32)) (a1 : Int32) (a2 : Int32) (a3 : Int32) (a4 : Int32) (o : Int32) (hf : f_X6_isSoBy_1 m_kind m_figure a1 a2 a3 a4 = some o) : Ct l D cI adK adV yX6_isSoBy (wy yX6_isSoBy cX6_isSoBy 7 (some .boolean)) { frames := 6, cells := 0, slots := 0, locals := 143 } 0 0 [.ref (ad 0), .int a1, .int a2, .int a3, .int a4] (wM ad cI m_left m_bites m_many m_imageLeft m_imageBites m_imageMany m_wasLeft m_wasBites m_wasMany m_hasImage m_letterMany m_rowMany m_place m_seed m_kind m_figure m_imageKind m_imageFigure m_wasKind m_wasFigure m_letters m_row m_refused m_numbers m_counted m_few) (fun _ => (wM ad cI m_left m_bites m_many m_imageLeft m_imageBites m_imageMany m_wasLeft m_wasBites m_wasMany m_hasImage m_letterMany m_rowMany m_place m_seed m_kind m_figure m_imageKind m_imageFigure m_wasKind m_wasFigure m_letters m_row m_refused m_numbers m_counted m_few)) (some (.int o)) := by
  refine Ct.of (cc := cX6_isSoBy) (nL := 7) (ret := (some .boolean)) (own := RX6) (by decide) (Nat.le_of_ble_eq_true rfl) rfl ?_
  intro p e s m args below meth c A C hr hlk hnm
  refine s_lv (lv1 := [(0, .ref (ad 0)), (1, .int a1), (2, .int a2), (3, .int a3), (4, .int a4)]) [0, 1, 2, 3, 4] rfl ?_
  unfold f_X6_isSoBy_1 at hf
  refine s_iload C 2 4 rfl dX6_isSoBy_0 rfl ?_
  refine s_if_ne C 21 5 rfl dX6_isSoBy_2 rfl (fun hc43 => ?_) (fun hc43 => ?_)
  · replace hf := ite_f hc43 hf
    refine s_iconst C 22 rfl dX6_isSoBy_21 ic_0 ?_
    refine s_istore (lv1 := [(5, .int (0 : Int32)), (0, .ref (ad 0)), (1, .int a1), (2, .int a2), (3, .int a3), (4, .int a4)]) C 24 5 rfl dX6_isSoBy_22 (Nat.le_of_ble_eq_true rfl) rfl ?_
    refine s_lv (lv1 := [(0, .ref (ad 0)), (1, .int a1), (2, .int a2), (3, .int a3), (4, .int a4), (5, .int (0 : Int32))]) [1, 2, 3, 4, 5, 0] rfl ?_
    refine s_loop (α := Int32) (fun n v24 => f_X6_isSoBy_1_24 a1 a2 a3 a4 m_kind m_figure n v24) 24 (fun v24 => [(0, .ref (ad 0)), (1, .int a1), (2, .int a2), (3, .int a3), (4, .int a4), (5, .int v24)]) (fun v24 => (wM ad cI m_left m_bites m_many m_imageLeft m_imageBites m_imageMany m_wasLeft m_wasBites m_wasMany m_hasImage m_letterMany m_rowMany m_place m_seed m_kind m_figure m_imageKind m_imageFigure m_wasKind m_wasFigure m_letters m_row m_refused m_numbers m_counted m_few)) 1000 (0 : Int32) hf (fun v24 hf => by simp only [f_X6_isSoBy_1_24] at hf; exact absurd hf (by simp)) (fun n ih25 v24 hf => ?_)
    replace hf := (f_X6_isSoBy_1_24_s _ _ _ _ _ _ _ _).symm.trans hf
    refine s_iload C 26 5 rfl dX6_isSoBy_24 rfl ?_
    refine s_iconst C 27 rfl dX6_isSoBy_26 ic_4 ?_
    refine s_icmp_ge C 89 30 rfl dX6_isSoBy_27 rfl (fun hc39 => ?_) (fun hc39 => ?_)
    · replace hf := ite_t hc39 hf
      refine s_iconst C 90 rfl dX6_isSoBy_89 ic_0 ?_
      obtain rfl := Option.some.inj hf
      exact s_zret C (fun i => i) hr hlk (Or.inl rfl) rfl rfl dX6_isSoBy_90
    · replace hf := ite_f hc39 hf
      refine s_iconst C 31 rfl dX6_isSoBy_30 ic_0 ?_
      refine s_istore (lv1 := [(6, .int (0 : Int32)), (0, .ref (ad 0)), (1, .int a1), (2, .int a2), (3, .int a3), (4, .int a4), (5, .int v24)]) C 33 6 rfl dX6_isSoBy_31 (Nat.le_of_ble_eq_true rfl) rfl ?_
      refine s_lv (lv1 := [(0, .ref (ad 0)), (1, .int a1), (2, .int a2), (3, .int a3), (4, .int a4), (5, .int v24), (6, .int (0 : Int32))]) [1, 2, 3, 4, 5, 6, 0] rfl ?_
      refine s_kont (γ := Unit) (o := o) (fun KQ => f_X6_isSoBy_1_33 a1 a2 a3 a4 v24 m_kind m_figure KQ 1000 (0 : Int32) = some o) 83 (fun e27 => [(0, .ref (ad 0)), (1, .int a1), (2, .int a2), (3, .int a3), (4, .int a4), (5, .int v24)]) (fun e27 => []) (fun e27 => (wM ad cI m_left m_bites m_many m_imageLeft m_imageBites m_imageMany m_wasLeft m_wasBites m_wasMany m_hasImage m_letterMany m_rowMany m_place m_seed m_kind m_figure m_imageKind m_imageFigure m_wasKind m_wasFigure m_letters m_row m_refused m_numbers m_counted m_few)) hf (fun e27 hf => ?_) (fun k26 hk26 hf => ?_)
      · refine s_iinc (lv1 := [(5, .int (v24 + (1 : Int32))), (0, .ref (ad 0)), (1, .int a1), (2, .int a2), (3, .int a3), (4, .int a4)]) C 86 5 5 rfl dX6_isSoBy_83 rfl ic_1 (Nat.le_of_ble_eq_true rfl) rfl ?_
        refine s_goto C 24 dX6_isSoBy_86 rfl ?_
        exact s_lv [1, 2, 3, 4, 5, 0] rfl (ih25 (v24 + (1 : Int32) : Int32) hf)
      · skip
        refine s_loop (α := Int32) (fun n v28 => f_X6_isSoBy_1_33 a1 a2 a3 a4 v24 m_kind m_figure k26 n v28) 33 (fun v28 => [(0, .ref (ad 0)), (1, .int a1), (2, .int a2), (3, .int a3), (4, .int a4), (5, .int v24), (6, .int v28)]) (fun v28 => (wM ad cI m_left m_bites m_many m_imageLeft m_imageBites m_imageMany m_wasLeft m_wasBites m_wasMany m_hasImage m_letterMany m_rowMany m_place m_seed m_kind m_figure m_imageKind m_imageFigure m_wasKind m_wasFigure m_letters m_row m_refused m_numbers m_counted m_few)) 1000 (0 : Int32) hf (fun v28 hf => by simp only [f_X6_isSoBy_1_33] at hf; exact absurd hf (by simp)) (fun n ih29 v28 hf => ?_)
        replace hf := (f_X6_isSoBy_1_33_s _ _ _ _ _ _ _ _ _ _).symm.trans hf
        refine s_iload C 35 6 rfl dX6_isSoBy_33 rfl ?_
        refine s_bipush C 37 rfl dX6_isSoBy_35 bp_25 ?_
        refine s_icmp_ge C 83 40 rfl dX6_isSoBy_37 rfl (fun hc38 => ?_) (fun hc38 => ?_)
        · replace hf := ite_t hc38 hf
          exact s_lv [0, 1, 2, 3, 4, 5] rfl (hk26 (() : Unit) hf)
        · replace hf := ite_f hc38 hf
          refine s_iload_n C 41 1 rfl dX6_isSoBy_40 rfl ?_
          refine s_iload C 43 5 rfl dX6_isSoBy_41 rfl ?_
          refine s_iload C 45 6 rfl dX6_isSoBy_43 rfl ?_
          obtain ⟨r30, q31, hf⟩ := bn_s hf
          refine s_callS0 (host := "") (rest := []) C 48 (c_X6_canBite l D cI adK adV a1 v24 v28 r30 q31) (gS uu1126 uu1128 uu6 uu1129) hd_X6_canBite rfl ⟨rfl, rfl⟩ ⟨Nat.le_of_ble_eq_true rfl, Nat.le_of_ble_eq_true rfl⟩ ⟨Nat.le_of_ble_eq_true rfl, Nat.le_of_ble_eq_true rfl⟩ rfl (Nat.le_of_ble_eq_true rfl) rfl dX6_isSoBy_45 ?_
          refine s_if_eq C 77 51 rfl dX6_isSoBy_48 rfl (fun hc37 => ?_) (fun hc37 => ?_)
          · replace hf := ite_t hc37 hf
            refine s_iinc (lv1 := [(6, .int (v28 + (1 : Int32))), (0, .ref (ad 0)), (1, .int a1), (2, .int a2), (3, .int a3), (4, .int a4), (5, .int v24)]) C 80 6 6 rfl dX6_isSoBy_77 rfl ic_1 (Nat.le_of_ble_eq_true rfl) rfl ?_
            refine s_goto C 33 dX6_isSoBy_80 rfl ?_
            exact s_lv [1, 2, 3, 4, 5, 6, 0] rfl (ih29 (v28 + (1 : Int32) : Int32) hf)
          · replace hf := ite_f hc37 hf
            refine s_aload_n C 52 0 rfl dX6_isSoBy_51 rfl ?_
            refine s_iload_n C 53 1 rfl dX6_isSoBy_52 rfl ?_
            refine s_iload C 55 5 rfl dX6_isSoBy_53 rfl ?_
            refine s_iload C 57 6 rfl dX6_isSoBy_55 rfl ?_
            obtain ⟨r32, q33, hf⟩ := bn_s hf
            refine s_callS0 (host := "") (rest := [.int a1, .ref (ad 0)]) C 60 (c_X6_bite l D cI adK adV v24 v28 r32 q33) (gS uu1131 uu1133 uu6 uu1134) hd_X6_bite rfl ⟨rfl, rfl⟩ ⟨Nat.le_of_ble_eq_true rfl, Nat.le_of_ble_eq_true rfl⟩ ⟨Nat.le_of_ble_eq_true rfl, Nat.le_of_ble_eq_true rfl⟩ rfl (Nat.le_of_ble_eq_true rfl) rfl dX6_isSoBy_57 ?_
            refine s_iconst C 61 rfl dX6_isSoBy_60 ic_m1 ?_
            refine s_ixor C 62 rfl dX6_isSoBy_61 ?_
            refine s_iand C 63 rfl dX6_isSoBy_62 ?_
            refine s_iload_n C 64 2 rfl dX6_isSoBy_63 rfl ?_
            refine s_iload_n C 65 3 rfl dX6_isSoBy_64 rfl ?_
            refine s_iload C 67 4 rfl dX6_isSoBy_65 rfl ?_
            refine s_iconst C 68 rfl dX6_isSoBy_67 ic_1 ?_
            refine s_isub C 69 rfl dX6_isSoBy_68 ?_
            obtain ⟨r34, q35, hf⟩ := bn_s hf
            refine s_callW (T := TX6) (N := 26) (ci := 5) (q0 := 0) (rest := []) C 72 (c_X6_isSoBy_0 l D cI adK adV ad m_left m_bites m_many m_imageLeft m_imageBites m_imageMany m_wasLeft m_wasBites m_wasMany m_hasImage m_letterMany m_rowMany m_place m_seed m_kind m_figure m_imageKind m_imageFigure m_wasKind m_wasFigure m_letters m_row m_refused m_numbers m_counted m_few (a1 &&& (r32 ^^^ (-1 : Int32))) a2 a3 (a4 - (1 : Int32)) r34 q35) (gV uu1334 uu1336 uu1586 uu6 uu1337) hd_X6_isSoBy rfl ⟨rfl, rfl⟩ ⟨Nat.le_of_ble_eq_true rfl, Nat.le_of_ble_eq_true rfl⟩ ⟨Nat.le_of_ble_eq_true rfl, Nat.le_of_ble_eq_true rfl⟩ rfl rfl rfl (Nat.le_of_ble_eq_true rfl) rfl dX6_isSoBy_69 (fun _ => ?_)
            refine s_if_eq C 77 75 rfl dX6_isSoBy_72 rfl (fun hc36 => ?_) (fun hc36 => ?_)
            · replace hf := ite_t hc36 hf
              refine s_iinc (lv1 := [(6, .int (v28 + (1 : Int32))), (0, .ref (ad 0)), (1, .int a1), (2, .int a2), (3, .int a3), (4, .int a4), (5, .int v24)]) C 80 6 6 rfl dX6_isSoBy_77 rfl ic_1 (Nat.le_of_ble_eq_true rfl) rfl ?_
              refine s_goto C 33 dX6_isSoBy_80 rfl ?_
              exact s_lv [1, 2, 3, 4, 5, 6, 0] rfl (ih29 (v28 + (1 : Int32) : Int32) hf)
            · replace hf := ite_f hc36 hf
              refine s_iconst C 76 rfl dX6_isSoBy_75 ic_1 ?_
              obtain rfl := Option.some.inj hf
              exact s_zret C (fun i => i) hr hlk (Or.inr rfl) rfl rfl dX6_isSoBy_76
  · replace hf := ite_t hc43 hf
    refine s_aload_n C 6 0 rfl dX6_isSoBy_5 rfl ?_
    refine s_iload_n C 7 1 rfl dX6_isSoBy_6 rfl ?_
    refine s_iload_n C 8 2 rfl dX6_isSoBy_7 rfl ?_
    obtain ⟨r40, q41, hf⟩ := bn_s hf
    refine s_callW (T := TX6) (N := 26) (ci := 5) (q0 := 0) (rest := []) C 11 (c_X6_shareOf l D cI adK adV ad m_left m_bites m_many m_imageLeft m_imageBites m_imageMany m_wasLeft m_wasBites m_wasMany m_hasImage m_letterMany m_rowMany m_place m_seed m_kind m_figure m_imageKind m_imageFigure m_wasKind m_wasFigure m_letters m_row m_refused m_numbers m_counted m_few a1 a2 r40 q41) (gV uu1198 uu1200 uu1582 uu6 uu1201) hd_X6_shareOf rfl ⟨rfl, rfl⟩ ⟨Nat.le_of_ble_eq_true rfl, Nat.le_of_ble_eq_true rfl⟩ ⟨Nat.le_of_ble_eq_true rfl, Nat.le_of_ble_eq_true rfl⟩ rfl rfl rfl (Nat.le_of_ble_eq_true rfl) rfl dX6_isSoBy_8 (fun _ => ?_)
    refine s_iload_n C 12 3 rfl dX6_isSoBy_11 rfl ?_
    refine s_icmp_lt C 19 15 rfl dX6_isSoBy_12 rfl (fun hc42 => ?_) (fun hc42 => ?_)
    · replace hf := ite_t hc42 hf
      refine s_iconst C 20 rfl dX6_isSoBy_19 ic_0 ?_
      obtain rfl := Option.some.inj hf
      exact s_zret C (fun i => i) hr hlk (Or.inl rfl) rfl rfl dX6_isSoBy_20
    · replace hf := ite_f hc42 hf
      refine s_iconst C 16 rfl dX6_isSoBy_15 ic_1 ?_
      refine s_goto C 20 dX6_isSoBy_16 rfl ?_
      obtain rfl := Option.some.inj hf
      exact s_zret C (fun i => i) hr hlk (Or.inr rfl) rfl rfl dX6_isSoBy_20



set_option maxHeartbeats 4000000 in
set_option maxRecDepth 100000 in
theorem c_X6_isSoBy_2 (l : Launch) (D : va_G) (cI : ClassId) (adK adV : Nat → Nat) (ad : Nat → Nat) (m_left : Int32) (m_bites : Int32) (m_many : Int32) (m_imageLeft : Int32) (m_imageBites : Int32) (m_imageMany : Int32) (m_wasLeft : Int32) (m_wasBites : Int32) (m_wasMany : Int32) (m_hasImage : Int32) (m_letterMany : Int32) (m_rowMany : Int32) (m_place : Int32) (m_seed : Int32) (m_kind : (Nat → Int32)) (m_figure : (Nat → Int32)) (m_imageKind : (Nat → Int32)) (m_imageFigure : (Nat → Int32)) (m_wasKind : (Nat → Int32)) (m_wasFigure : (Nat → Int32)) (m_letters : (Nat → Int32)) (m_row : (Nat → Int32)) (m_refused : (Nat → Int32)) (m_numbers : (Nat → Int32)) (m_counted : (Nat → Int32)) (m_few : (Nat → Int32)) (a1 : Int32) (a2 : Int32) (a3 : Int32) (a4 : Int32) (o : Int32) (hf : f_X6_isSoBy_2 m_kind m_figure a1 a2 a3 a4 = some o) : Ct l D cI adK adV yX6_isSoBy (wy yX6_isSoBy cX6_isSoBy 7 (some .boolean)) { frames := 7, cells := 0, slots := 0, locals := 169 } 0 0 [.ref (ad 0), .int a1, .int a2, .int a3, .int a4] (wM ad cI m_left m_bites m_many m_imageLeft m_imageBites m_imageMany m_wasLeft m_wasBites m_wasMany m_hasImage m_letterMany m_rowMany m_place m_seed m_kind m_figure m_imageKind m_imageFigure m_wasKind m_wasFigure m_letters m_row m_refused m_numbers m_counted m_few) (fun _ => (wM ad cI m_left m_bites m_many m_imageLeft m_imageBites m_imageMany m_wasLeft m_wasBites m_wasMany m_hasImage m_letterMany m_rowMany m_place m_seed m_kind m_figure m_imageKind m_imageFigure m_wasKind m_wasFigure m_letters m_row m_refused m_numbers m_counted m_few)) (some (.int o)) := by
  refine Ct.of (cc := cX6_isSoBy) (nL := 7) (ret := (some .boolean)) (own := RX6) (by decide) (Nat.le_of_ble_eq_true rfl) rfl ?_
  intro p e s m args below meth c A C hr hlk hnm
  refine s_lv (lv1 := [(0, .ref (ad 0)), (1, .int a1), (2, .int a2), (3, .int a3), (4, .int a4)]) [0, 1, 2, 3, 4] rfl ?_
  unfold f_X6_isSoBy_2 at hf
  refine s_iload C 2 4 rfl dX6_isSoBy_0 rfl ?_
  refine s_if_ne C 21 5 rfl dX6_isSoBy_2 rfl (fun hc43 => ?_) (fun hc43 => ?_)
  · replace hf := ite_f hc43 hf
    refine s_iconst C 22 rfl dX6_isSoBy_21 ic_0 ?_
    refine s_istore (lv1 := [(5, .int (0 : Int32)), (0, .ref (ad 0)), (1, .int a1), (2, .int a2), (3, .int a3), (4, .int a4)]) C 24 5 rfl dX6_isSoBy_22 (Nat.le_of_ble_eq_true rfl) rfl ?_
    refine s_lv (lv1 := [(0, .ref (ad 0)), (1, .int a1), (2, .int a2), (3, .int a3), (4, .int a4), (5, .int (0 : Int32))]) [1, 2, 3, 4, 5, 0] rfl ?_
    refine s_loop (α := Int32) (fun n v24 => f_X6_isSoBy_2_24 a1 a2 a3 a4 m_kind m_figure n v24) 24 (fun v24 => [(0, .ref (ad 0)), (1, .int a1), (2, .int a2), (3, .int a3), (4, .int a4), (5, .int v24)]) (fun v24 => (wM ad cI m_left m_bites m_many m_imageLeft m_imageBites m_imageMany m_wasLeft m_wasBites m_wasMany m_hasImage m_letterMany m_rowMany m_place m_seed m_kind m_figure m_imageKind m_imageFigure m_wasKind m_wasFigure m_letters m_row m_refused m_numbers m_counted m_few)) 1000 (0 : Int32) hf (fun v24 hf => by simp only [f_X6_isSoBy_2_24] at hf; exact absurd hf (by simp)) (fun n ih25 v24 hf => ?_)
    replace hf := (f_X6_isSoBy_2_24_s _ _ _ _ _ _ _ _).symm.trans hf
    refine s_iload C 26 5 rfl dX6_isSoBy_24 rfl ?_
    refine s_iconst C 27 rfl dX6_isSoBy_26 ic_4 ?_
    refine s_icmp_ge C 89 30 rfl dX6_isSoBy_27 rfl (fun hc39 => ?_) (fun hc39 => ?_)
    · replace hf := ite_t hc39 hf
      refine s_iconst C 90 rfl dX6_isSoBy_89 ic_0 ?_
      obtain rfl := Option.some.inj hf
      exact s_zret C (fun i => i) hr hlk (Or.inl rfl) rfl rfl dX6_isSoBy_90
    · replace hf := ite_f hc39 hf
      refine s_iconst C 31 rfl dX6_isSoBy_30 ic_0 ?_
      refine s_istore (lv1 := [(6, .int (0 : Int32)), (0, .ref (ad 0)), (1, .int a1), (2, .int a2), (3, .int a3), (4, .int a4), (5, .int v24)]) C 33 6 rfl dX6_isSoBy_31 (Nat.le_of_ble_eq_true rfl) rfl ?_
      refine s_lv (lv1 := [(0, .ref (ad 0)), (1, .int a1), (2, .int a2), (3, .int a3), (4, .int a4), (5, .int v24), (6, .int (0 : Int32))]) [1, 2, 3, 4, 5, 6, 0] rfl ?_
      refine s_kont (γ := Unit) (o := o) (fun KQ => f_X6_isSoBy_2_33 a1 a2 a3 a4 v24 m_kind m_figure KQ 1000 (0 : Int32) = some o) 83 (fun e27 => [(0, .ref (ad 0)), (1, .int a1), (2, .int a2), (3, .int a3), (4, .int a4), (5, .int v24)]) (fun e27 => []) (fun e27 => (wM ad cI m_left m_bites m_many m_imageLeft m_imageBites m_imageMany m_wasLeft m_wasBites m_wasMany m_hasImage m_letterMany m_rowMany m_place m_seed m_kind m_figure m_imageKind m_imageFigure m_wasKind m_wasFigure m_letters m_row m_refused m_numbers m_counted m_few)) hf (fun e27 hf => ?_) (fun k26 hk26 hf => ?_)
      · refine s_iinc (lv1 := [(5, .int (v24 + (1 : Int32))), (0, .ref (ad 0)), (1, .int a1), (2, .int a2), (3, .int a3), (4, .int a4)]) C 86 5 5 rfl dX6_isSoBy_83 rfl ic_1 (Nat.le_of_ble_eq_true rfl) rfl ?_
        refine s_goto C 24 dX6_isSoBy_86 rfl ?_
        exact s_lv [1, 2, 3, 4, 5, 0] rfl (ih25 (v24 + (1 : Int32) : Int32) hf)
      · skip
        refine s_loop (α := Int32) (fun n v28 => f_X6_isSoBy_2_33 a1 a2 a3 a4 v24 m_kind m_figure k26 n v28) 33 (fun v28 => [(0, .ref (ad 0)), (1, .int a1), (2, .int a2), (3, .int a3), (4, .int a4), (5, .int v24), (6, .int v28)]) (fun v28 => (wM ad cI m_left m_bites m_many m_imageLeft m_imageBites m_imageMany m_wasLeft m_wasBites m_wasMany m_hasImage m_letterMany m_rowMany m_place m_seed m_kind m_figure m_imageKind m_imageFigure m_wasKind m_wasFigure m_letters m_row m_refused m_numbers m_counted m_few)) 1000 (0 : Int32) hf (fun v28 hf => by simp only [f_X6_isSoBy_2_33] at hf; exact absurd hf (by simp)) (fun n ih29 v28 hf => ?_)
        replace hf := (f_X6_isSoBy_2_33_s _ _ _ _ _ _ _ _ _ _).symm.trans hf
        refine s_iload C 35 6 rfl dX6_isSoBy_33 rfl ?_
        refine s_bipush C 37 rfl dX6_isSoBy_35 bp_25 ?_
        refine s_icmp_ge C 83 40 rfl dX6_isSoBy_37 rfl (fun hc38 => ?_) (fun hc38 => ?_)
        · replace hf := ite_t hc38 hf
          exact s_lv [0, 1, 2, 3, 4, 5] rfl (hk26 (() : Unit) hf)
        · replace hf := ite_f hc38 hf
          refine s_iload_n C 41 1 rfl dX6_isSoBy_40 rfl ?_
          refine s_iload C 43 5 rfl dX6_isSoBy_41 rfl ?_
          refine s_iload C 45 6 rfl dX6_isSoBy_43 rfl ?_
          obtain ⟨r30, q31, hf⟩ := bn_s hf
          refine s_callS0 (host := "") (rest := []) C 48 (c_X6_canBite l D cI adK adV a1 v24 v28 r30 q31) (gS uu1126 uu1128 uu6 uu1129) hd_X6_canBite rfl ⟨rfl, rfl⟩ ⟨Nat.le_of_ble_eq_true rfl, Nat.le_of_ble_eq_true rfl⟩ ⟨Nat.le_of_ble_eq_true rfl, Nat.le_of_ble_eq_true rfl⟩ rfl (Nat.le_of_ble_eq_true rfl) rfl dX6_isSoBy_45 ?_
          refine s_if_eq C 77 51 rfl dX6_isSoBy_48 rfl (fun hc37 => ?_) (fun hc37 => ?_)
          · replace hf := ite_t hc37 hf
            refine s_iinc (lv1 := [(6, .int (v28 + (1 : Int32))), (0, .ref (ad 0)), (1, .int a1), (2, .int a2), (3, .int a3), (4, .int a4), (5, .int v24)]) C 80 6 6 rfl dX6_isSoBy_77 rfl ic_1 (Nat.le_of_ble_eq_true rfl) rfl ?_
            refine s_goto C 33 dX6_isSoBy_80 rfl ?_
            exact s_lv [1, 2, 3, 4, 5, 6, 0] rfl (ih29 (v28 + (1 : Int32) : Int32) hf)
          · replace hf := ite_f hc37 hf
            refine s_aload_n C 52 0 rfl dX6_isSoBy_51 rfl ?_
            refine s_iload_n C 53 1 rfl dX6_isSoBy_52 rfl ?_
            refine s_iload C 55 5 rfl dX6_isSoBy_53 rfl ?_
            refine s_iload C 57 6 rfl dX6_isSoBy_55 rfl ?_
            obtain ⟨r32, q33, hf⟩ := bn_s hf
            refine s_callS0 (host := "") (rest := [.int a1, .ref (ad 0)]) C 60 (c_X6_bite l D cI adK adV v24 v28 r32 q33) (gS uu1131 uu1133 uu6 uu1134) hd_X6_bite rfl ⟨rfl, rfl⟩ ⟨Nat.le_of_ble_eq_true rfl, Nat.le_of_ble_eq_true rfl⟩ ⟨Nat.le_of_ble_eq_true rfl, Nat.le_of_ble_eq_true rfl⟩ rfl (Nat.le_of_ble_eq_true rfl) rfl dX6_isSoBy_57 ?_
            refine s_iconst C 61 rfl dX6_isSoBy_60 ic_m1 ?_
            refine s_ixor C 62 rfl dX6_isSoBy_61 ?_
            refine s_iand C 63 rfl dX6_isSoBy_62 ?_
            refine s_iload_n C 64 2 rfl dX6_isSoBy_63 rfl ?_
            refine s_iload_n C 65 3 rfl dX6_isSoBy_64 rfl ?_
            refine s_iload C 67 4 rfl dX6_isSoBy_65 rfl ?_
            refine s_iconst C 68 rfl dX6_isSoBy_67 ic_1 ?_
            refine s_isub C 69 rfl dX6_isSoBy_68 ?_
            obtain ⟨r34, q35, hf⟩ := bn_s hf
            refine s_callW (T := TX6) (N := 26) (ci := 5) (q0 := 0) (rest := []) C 72 (c_X6_isSoBy_1 l D cI adK adV ad m_left m_bites m_many m_imageLeft m_imageBites m_imageMany m_wasLeft m_wasBites m_wasMany m_hasImage m_letterMany m_rowMany m_place m_seed m_kind m_figure m_imageKind m_imageFigure m_wasKind m_wasFigure m_letters m_row m_refused m_numbers m_counted m_few (a1 &&& (r32 ^^^ (-1 : Int32))) a2 a3 (a4 - (1 : Int32)) r34 q35) (gV uu1334 uu1336 uu1586 uu6 uu1337) hd_X6_isSoBy rfl ⟨rfl, rfl⟩ ⟨Nat.le_of_ble_eq_true rfl, Nat.le_of_ble_eq_true rfl⟩ ⟨Nat.le_of_ble_eq_true rfl, Nat.le_of_ble_eq_true rfl⟩ rfl rfl rfl (Nat.le_of_ble_eq_true rfl) rfl dX6_isSoBy_69 (fun _ => ?_)
            refine s_if_eq C 77 75 rfl dX6_isSoBy_72 rfl (fun hc36 => ?_) (fun hc36 => ?_)
            · replace hf := ite_t hc36 hf
              refine s_iinc (lv1 := [(6, .int (v28 + (1 : Int32))), (0, .ref (ad 0)), (1, .int a1), (2, .int a2), (3, .int a3), (4, .int a4), (5, .int v24)]) C 80 6 6 rfl dX6_isSoBy_77 rfl ic_1 (Nat.le_of_ble_eq_true rfl) rfl ?_
              refine s_goto C 33 dX6_isSoBy_80 rfl ?_
              exact s_lv [1, 2, 3, 4, 5, 6, 0] rfl (ih29 (v28 + (1 : Int32) : Int32) hf)
            · replace hf := ite_f hc36 hf
              refine s_iconst C 76 rfl dX6_isSoBy_75 ic_1 ?_
              obtain rfl := Option.some.inj hf
              exact s_zret C (fun i => i) hr hlk (Or.inr rfl) rfl rfl dX6_isSoBy_76
  · replace hf := ite_t hc43 hf
    refine s_aload_n C 6 0 rfl dX6_isSoBy_5 rfl ?_
    refine s_iload_n C 7 1 rfl dX6_isSoBy_6 rfl ?_
    refine s_iload_n C 8 2 rfl dX6_isSoBy_7 rfl ?_
    obtain ⟨r40, q41, hf⟩ := bn_s hf
    refine s_callW (T := TX6) (N := 26) (ci := 5) (q0 := 0) (rest := []) C 11 (c_X6_shareOf l D cI adK adV ad m_left m_bites m_many m_imageLeft m_imageBites m_imageMany m_wasLeft m_wasBites m_wasMany m_hasImage m_letterMany m_rowMany m_place m_seed m_kind m_figure m_imageKind m_imageFigure m_wasKind m_wasFigure m_letters m_row m_refused m_numbers m_counted m_few a1 a2 r40 q41) (gV uu1198 uu1200 uu1582 uu6 uu1201) hd_X6_shareOf rfl ⟨rfl, rfl⟩ ⟨Nat.le_of_ble_eq_true rfl, Nat.le_of_ble_eq_true rfl⟩ ⟨Nat.le_of_ble_eq_true rfl, Nat.le_of_ble_eq_true rfl⟩ rfl rfl rfl (Nat.le_of_ble_eq_true rfl) rfl dX6_isSoBy_8 (fun _ => ?_)
    refine s_iload_n C 12 3 rfl dX6_isSoBy_11 rfl ?_
    refine s_icmp_lt C 19 15 rfl dX6_isSoBy_12 rfl (fun hc42 => ?_) (fun hc42 => ?_)
    · replace hf := ite_t hc42 hf
      refine s_iconst C 20 rfl dX6_isSoBy_19 ic_0 ?_
      obtain rfl := Option.some.inj hf
      exact s_zret C (fun i => i) hr hlk (Or.inl rfl) rfl rfl dX6_isSoBy_20
    · replace hf := ite_f hc42 hf
      refine s_iconst C 16 rfl dX6_isSoBy_15 ic_1 ?_
      refine s_goto C 20 dX6_isSoBy_16 rfl ?_
      obtain rfl := Option.some.inj hf
      exact s_zret C (fun i => i) hr hlk (Or.inr rfl) rfl rfl dX6_isSoBy_20


theorem hd_X6_firstSo : yX6_firstSo.cls = RX6 ∧ yX6_firstSo.cls ≠ "java/lang/invoke/MethodHandle" ∧ yX6_firstSo.cls ≠ "java/lang/invoke/VarHandle" ∧ (parseMethodDescriptor yX6_firstSo.desc).map (fun d => d.parameters.length) = some 3 := by decide +kernel
set_option maxHeartbeats 4000000 in
set_option maxRecDepth 100000 in
theorem c_X6_firstSo (l : Launch) (D : va_G) (cI : ClassId) (adK adV : Nat → Nat) (ad : Nat → Nat) (m_left : Int32) (m_bites : Int32) (m_many : Int32) (m_imageLeft : Int32) (m_imageBites : Int32) (m_imageMany : Int32) (m_wasLeft : Int32) (m_wasBites : Int32) (m_wasMany : Int32) (m_hasImage : Int32) (m_letterMany : Int32) (m_rowMany : Int32) (m_place : Int32) (m_seed : Int32) (m_kind : (Nat → Int32)) (m_figure : (Nat → Int32)) (m_imageKind : (Nat → Int32)) (m_imageFigure : (Nat → Int32)) (m_wasKind : (Nat → Int32)) (m_wasFigure : (Nat → Int32)) (m_letters : (Nat → Int32)) (m_row : (Nat → Int32)) (m_refused : (Nat → Int32)) (m_numbers : (Nat → Int32)) (m_counted : (Nat → Int32)) (m_few : (Nat → Int32)) (a1 : Int32) (a2 : Int32) (a3 : Int32) (o : Int32) (hf : f_X6_firstSo m_left m_kind m_figure a1 a2 a3 = some o) : Ct l D cI adK adV yX6_firstSo (wy yX6_firstSo cX6_firstSo 6 (some .int)) { frames := 8, cells := 0, slots := 0, locals := 195 } 0 0 [.ref (ad 0), .int a1, .int a2, .int a3] (wM ad cI m_left m_bites m_many m_imageLeft m_imageBites m_imageMany m_wasLeft m_wasBites m_wasMany m_hasImage m_letterMany m_rowMany m_place m_seed m_kind m_figure m_imageKind m_imageFigure m_wasKind m_wasFigure m_letters m_row m_refused m_numbers m_counted m_few) (fun _ => (wM ad cI m_left m_bites m_many m_imageLeft m_imageBites m_imageMany m_wasLeft m_wasBites m_wasMany m_hasImage m_letterMany m_rowMany m_place m_seed m_kind m_figure m_imageKind m_imageFigure m_wasKind m_wasFigure m_letters m_row m_refused m_numbers m_counted m_few)) (some (.int o)) := by
  refine Ct.of (cc := cX6_firstSo) (nL := 6) (ret := (some .int)) (own := RX6) (by decide) (Nat.le_of_ble_eq_true rfl) rfl ?_
  intro p e s m args below meth c A C hr hlk hnm
  refine s_lv (lv1 := [(0, .ref (ad 0)), (1, .int a1), (2, .int a2), (3, .int a3)]) [0, 1, 2, 3] rfl ?_
  unfold f_X6_firstSo at hf
  refine s_iconst C 1 rfl dX6_firstSo_0 ic_0 ?_
  refine s_istore (lv1 := [(4, .int (0 : Int32)), (0, .ref (ad 0)), (1, .int a1), (2, .int a2), (3, .int a3)]) C 3 4 rfl dX6_firstSo_1 (Nat.le_of_ble_eq_true rfl) rfl ?_
  refine s_lv (lv1 := [(0, .ref (ad 0)), (1, .int a1), (2, .int a2), (3, .int a3), (4, .int (0 : Int32))]) [1, 2, 3, 4, 0] rfl ?_
  refine s_loop (α := Int32) (fun n v24 => f_X6_firstSo_3 a1 a2 a3 m_left m_kind m_figure n v24) 3 (fun v24 => [(0, .ref (ad 0)), (1, .int a1), (2, .int a2), (3, .int a3), (4, .int v24)]) (fun v24 => (wM ad cI m_left m_bites m_many m_imageLeft m_imageBites m_imageMany m_wasLeft m_wasBites m_wasMany m_hasImage m_letterMany m_rowMany m_place m_seed m_kind m_figure m_imageKind m_imageFigure m_wasKind m_wasFigure m_letters m_row m_refused m_numbers m_counted m_few)) 1000 (0 : Int32) hf (fun v24 hf => by simp only [f_X6_firstSo_3] at hf; exact absurd hf (by simp)) (fun n ih25 v24 hf => ?_)
  replace hf := (f_X6_firstSo_3_s _ _ _ _ _ _ _ _).symm.trans hf
  refine s_iload C 5 4 rfl dX6_firstSo_3 rfl ?_
  refine s_iconst C 6 rfl dX6_firstSo_5 ic_4 ?_
  refine s_icmp_ge C 80 9 rfl dX6_firstSo_6 rfl (fun hc39 => ?_) (fun hc39 => ?_)
  · replace hf := ite_t hc39 hf
    refine s_bipush C 82 rfl dX6_firstSo_80 bp_m9 ?_
    obtain rfl := Option.some.inj hf
    exact s_iret C (fun i => i) hr hlk rfl rfl dX6_firstSo_82
  · replace hf := ite_f hc39 hf
    refine s_iconst C 10 rfl dX6_firstSo_9 ic_0 ?_
    refine s_istore (lv1 := [(5, .int (0 : Int32)), (0, .ref (ad 0)), (1, .int a1), (2, .int a2), (3, .int a3), (4, .int v24)]) C 12 5 rfl dX6_firstSo_10 (Nat.le_of_ble_eq_true rfl) rfl ?_
    refine s_lv (lv1 := [(0, .ref (ad 0)), (1, .int a1), (2, .int a2), (3, .int a3), (4, .int v24), (5, .int (0 : Int32))]) [1, 2, 3, 4, 5, 0] rfl ?_
    refine s_kont (γ := Unit) (o := o) (fun KQ => f_X6_firstSo_12 a1 a2 a3 v24 m_left m_kind m_figure KQ 1000 (0 : Int32) = some o) 74 (fun e27 => [(0, .ref (ad 0)), (1, .int a1), (2, .int a2), (3, .int a3), (4, .int v24)]) (fun e27 => []) (fun e27 => (wM ad cI m_left m_bites m_many m_imageLeft m_imageBites m_imageMany m_wasLeft m_wasBites m_wasMany m_hasImage m_letterMany m_rowMany m_place m_seed m_kind m_figure m_imageKind m_imageFigure m_wasKind m_wasFigure m_letters m_row m_refused m_numbers m_counted m_few)) hf (fun e27 hf => ?_) (fun k26 hk26 hf => ?_)
    · refine s_iinc (lv1 := [(4, .int (v24 + (1 : Int32))), (0, .ref (ad 0)), (1, .int a1), (2, .int a2), (3, .int a3)]) C 77 4 4 rfl dX6_firstSo_74 rfl ic_1 (Nat.le_of_ble_eq_true rfl) rfl ?_
      refine s_goto C 3 dX6_firstSo_77 rfl ?_
      exact s_lv [1, 2, 3, 4, 0] rfl (ih25 (v24 + (1 : Int32) : Int32) hf)
    · skip
      refine s_loop (α := Int32) (fun n v28 => f_X6_firstSo_12 a1 a2 a3 v24 m_left m_kind m_figure k26 n v28) 12 (fun v28 => [(0, .ref (ad 0)), (1, .int a1), (2, .int a2), (3, .int a3), (4, .int v24), (5, .int v28)]) (fun v28 => (wM ad cI m_left m_bites m_many m_imageLeft m_imageBites m_imageMany m_wasLeft m_wasBites m_wasMany m_hasImage m_letterMany m_rowMany m_place m_seed m_kind m_figure m_imageKind m_imageFigure m_wasKind m_wasFigure m_letters m_row m_refused m_numbers m_counted m_few)) 1000 (0 : Int32) hf (fun v28 hf => by simp only [f_X6_firstSo_12] at hf; exact absurd hf (by simp)) (fun n ih29 v28 hf => ?_)
      replace hf := (f_X6_firstSo_12_s _ _ _ _ _ _ _ _ _ _).symm.trans hf
      refine s_iload C 14 5 rfl dX6_firstSo_12 rfl ?_
      refine s_bipush C 16 rfl dX6_firstSo_14 bp_25 ?_
      refine s_icmp_ge C 74 19 rfl dX6_firstSo_16 rfl (fun hc38 => ?_) (fun hc38 => ?_)
      · replace hf := ite_t hc38 hf
        exact s_lv [0, 1, 2, 3, 4] rfl (hk26 (() : Unit) hf)
      · replace hf := ite_f hc38 hf
        refine s_aload_n C 20 0 rfl dX6_firstSo_19 rfl ?_
        refine s_get (C1 := RX6) (T := TX6) (N := 26) (ci := 5) C 23 0 0 uX6 rfl rfl (Nat.le_of_ble_eq_true rfl) uu986 rfl rfl rfl dX6_firstSo_20 ?_
        refine s_iload C 25 4 rfl dX6_firstSo_23 rfl ?_
        refine s_iload C 27 5 rfl dX6_firstSo_25 rfl ?_
        obtain ⟨r30, q31, hf⟩ := bn_s hf
        refine s_callS0 (host := "") (rest := []) C 30 (c_X6_canBite l D cI adK adV m_left v24 v28 r30 q31) (gS uu1126 uu1128 uu6 uu1129) hd_X6_canBite rfl ⟨rfl, rfl⟩ ⟨Nat.le_of_ble_eq_true rfl, Nat.le_of_ble_eq_true rfl⟩ ⟨Nat.le_of_ble_eq_true rfl, Nat.le_of_ble_eq_true rfl⟩ rfl (Nat.le_of_ble_eq_true rfl) rfl dX6_firstSo_27 ?_
        refine s_if_eq C 68 33 rfl dX6_firstSo_30 rfl (fun hc37 => ?_) (fun hc37 => ?_)
        · replace hf := ite_t hc37 hf
          refine s_iinc (lv1 := [(5, .int (v28 + (1 : Int32))), (0, .ref (ad 0)), (1, .int a1), (2, .int a2), (3, .int a3), (4, .int v24)]) C 71 5 5 rfl dX6_firstSo_68 rfl ic_1 (Nat.le_of_ble_eq_true rfl) rfl ?_
          refine s_goto C 12 dX6_firstSo_71 rfl ?_
          exact s_lv [1, 2, 3, 4, 5, 0] rfl (ih29 (v28 + (1 : Int32) : Int32) hf)
        · replace hf := ite_f hc37 hf
          refine s_aload_n C 34 0 rfl dX6_firstSo_33 rfl ?_
          refine s_aload_n C 35 0 rfl dX6_firstSo_34 rfl ?_
          refine s_get (C1 := RX6) (T := TX6) (N := 26) (ci := 5) C 38 0 0 uX6 rfl rfl (Nat.le_of_ble_eq_true rfl) uu986 rfl rfl rfl dX6_firstSo_35 ?_
          refine s_iload C 40 4 rfl dX6_firstSo_38 rfl ?_
          refine s_iload C 42 5 rfl dX6_firstSo_40 rfl ?_
          obtain ⟨r32, q33, hf⟩ := bn_s hf
          refine s_callS0 (host := "") (rest := [.int m_left, .ref (ad 0)]) C 45 (c_X6_bite l D cI adK adV v24 v28 r32 q33) (gS uu1131 uu1133 uu6 uu1134) hd_X6_bite rfl ⟨rfl, rfl⟩ ⟨Nat.le_of_ble_eq_true rfl, Nat.le_of_ble_eq_true rfl⟩ ⟨Nat.le_of_ble_eq_true rfl, Nat.le_of_ble_eq_true rfl⟩ rfl (Nat.le_of_ble_eq_true rfl) rfl dX6_firstSo_42 ?_
          refine s_iconst C 46 rfl dX6_firstSo_45 ic_m1 ?_
          refine s_ixor C 47 rfl dX6_firstSo_46 ?_
          refine s_iand C 48 rfl dX6_firstSo_47 ?_
          refine s_iload_n C 49 1 rfl dX6_firstSo_48 rfl ?_
          refine s_iload_n C 50 2 rfl dX6_firstSo_49 rfl ?_
          refine s_iload_n C 51 3 rfl dX6_firstSo_50 rfl ?_
          refine s_iconst C 52 rfl dX6_firstSo_51 ic_1 ?_
          refine s_isub C 53 rfl dX6_firstSo_52 ?_
          obtain ⟨r34, q35, hf⟩ := bn_s hf
          refine s_callW (T := TX6) (N := 26) (ci := 5) (q0 := 0) (rest := []) C 56 (c_X6_isSoBy_2 l D cI adK adV ad m_left m_bites m_many m_imageLeft m_imageBites m_imageMany m_wasLeft m_wasBites m_wasMany m_hasImage m_letterMany m_rowMany m_place m_seed m_kind m_figure m_imageKind m_imageFigure m_wasKind m_wasFigure m_letters m_row m_refused m_numbers m_counted m_few (m_left &&& (r32 ^^^ (-1 : Int32))) a1 a2 (a3 - (1 : Int32)) r34 q35) (gV uu1334 uu1336 uu1586 uu6 uu1337) hd_X6_isSoBy rfl ⟨rfl, rfl⟩ ⟨Nat.le_of_ble_eq_true rfl, Nat.le_of_ble_eq_true rfl⟩ ⟨Nat.le_of_ble_eq_true rfl, Nat.le_of_ble_eq_true rfl⟩ rfl rfl rfl (Nat.le_of_ble_eq_true rfl) rfl dX6_firstSo_53 (fun _ => ?_)
          refine s_if_eq C 68 59 rfl dX6_firstSo_56 rfl (fun hc36 => ?_) (fun hc36 => ?_)
          · replace hf := ite_t hc36 hf
            refine s_iinc (lv1 := [(5, .int (v28 + (1 : Int32))), (0, .ref (ad 0)), (1, .int a1), (2, .int a2), (3, .int a3), (4, .int v24)]) C 71 5 5 rfl dX6_firstSo_68 rfl ic_1 (Nat.le_of_ble_eq_true rfl) rfl ?_
            refine s_goto C 12 dX6_firstSo_71 rfl ?_
            exact s_lv [1, 2, 3, 4, 5, 0] rfl (ih29 (v28 + (1 : Int32) : Int32) hf)
          · replace hf := ite_f hc36 hf
            refine s_bipush C 61 rfl dX6_firstSo_59 bp_100 ?_
            refine s_iload C 63 4 rfl dX6_firstSo_61 rfl ?_
            refine s_imul C 64 rfl dX6_firstSo_63 ?_
            refine s_iload C 66 5 rfl dX6_firstSo_64 rfl ?_
            refine s_iadd C 67 rfl dX6_firstSo_66 ?_
            obtain rfl := Option.some.inj hf
            exact s_iret C (fun i => i) hr hlk rfl rfl dX6_firstSo_67


theorem hd_X6_comesTo : yX6_comesTo.cls = RX6 ∧ yX6_comesTo.cls ≠ "java/lang/invoke/MethodHandle" ∧ yX6_comesTo.cls ≠ "java/lang/invoke/VarHandle" ∧ (parseMethodDescriptor yX6_comesTo.desc).map (fun d => d.parameters.length) = some 4 := by decide +kernel
set_option maxHeartbeats 4000000 in
set_option maxRecDepth 100000 in
theorem c_X6_comesTo (l : Launch) (D : va_G) (cI : ClassId) (adK adV : Nat → Nat) (ad : Nat → Nat) (m_left : Int32) (m_bites : Int32) (m_many : Int32) (m_imageLeft : Int32) (m_imageBites : Int32) (m_imageMany : Int32) (m_wasLeft : Int32) (m_wasBites : Int32) (m_wasMany : Int32) (m_hasImage : Int32) (m_letterMany : Int32) (m_rowMany : Int32) (m_place : Int32) (m_seed : Int32) (m_kind : (Nat → Int32)) (m_figure : (Nat → Int32)) (m_imageKind : (Nat → Int32)) (m_imageFigure : (Nat → Int32)) (m_wasKind : (Nat → Int32)) (m_wasFigure : (Nat → Int32)) (m_letters : (Nat → Int32)) (m_row : (Nat → Int32)) (m_refused : (Nat → Int32)) (m_numbers : (Nat → Int32)) (m_counted : (Nat → Int32)) (m_few : (Nat → Int32)) (a1 : Int32) (a2 : Int32) (a3 : Int32) (a4 : Int32) (o : (Nat → Int32) × (Nat → Int32)) (hf : f_X6_comesTo m_counted m_few a1 a2 a3 a4 = some o) : Ct l D cI adK adV yX6_comesTo (wy yX6_comesTo cX6_comesTo 6 none) { frames := 1, cells := 0, slots := 0, locals := 21 } 0 0 [.ref (ad 0), .int a1, .int a2, .int a3, .int a4] (wM ad cI m_left m_bites m_many m_imageLeft m_imageBites m_imageMany m_wasLeft m_wasBites m_wasMany m_hasImage m_letterMany m_rowMany m_place m_seed m_kind m_figure m_imageKind m_imageFigure m_wasKind m_wasFigure m_letters m_row m_refused m_numbers m_counted m_few) (fun _ => (wM ad cI m_left m_bites m_many m_imageLeft m_imageBites m_imageMany m_wasLeft m_wasBites m_wasMany m_hasImage m_letterMany m_rowMany m_place m_seed m_kind m_figure m_imageKind m_imageFigure m_wasKind m_wasFigure m_letters m_row m_refused m_numbers o.1 o.2)) (none) := by
  refine Ct.of (cc := cX6_comesTo) (nL := 6) (ret := none) (own := RX6) (by decide) (Nat.le_of_ble_eq_true rfl) rfl ?_
  intro p e s m args below meth c A C hr hlk hnm
  refine s_lv (lv1 := [(0, .ref (ad 0)), (1, .int a1), (2, .int a2), (3, .int a3), (4, .int a4)]) [0, 1, 2, 3, 4] rfl ?_
  unfold f_X6_comesTo at hf
  refine s_sipush C 3 rfl dX6_comesTo_0 sp_128 ?_
  refine s_iload_n C 4 1 rfl dX6_comesTo_3 rfl ?_
  refine s_imul C 5 rfl dX6_comesTo_4 ?_
  refine s_iload_n C 6 2 rfl dX6_comesTo_5 rfl ?_
  refine s_iadd C 7 rfl dX6_comesTo_6 ?_
  refine s_istore (lv1 := [(5, .int (((128 : Int32) * a1) + a2)), (0, .ref (ad 0)), (1, .int a1), (2, .int a2), (3, .int a3), (4, .int a4)]) C 9 5 rfl dX6_comesTo_7 (Nat.le_of_ble_eq_true rfl) rfl ?_
  refine s_aload_n C 10 1 rfl dX6_comesTo_9 rfl ?_
  refine s_get (C1 := RX6) (T := TX6) (N := 26) (ci := 5) C 13 0 23 uX6 rfl rfl (Nat.le_of_ble_eq_true rfl) uu1032 rfl rfl rfl dX6_comesTo_10 ?_
  refine s_iload C 15 0 rfl dX6_comesTo_13 rfl ?_
  refine s_aload_n C 16 1 rfl dX6_comesTo_15 rfl ?_
  refine s_get (C1 := RX6) (T := TX6) (N := 26) (ci := 5) C 19 0 23 uX6 rfl rfl (Nat.le_of_ble_eq_true rfl) uu1032 rfl rfl rfl dX6_comesTo_16 ?_
  refine s_iload C 21 0 rfl dX6_comesTo_19 rfl ?_
  obtain ⟨h1, hf⟩ := ck_in hf
  refine s_iald C 22 11 rfl h1 rfl dX6_comesTo_21 ?_
  refine s_iload_n C 23 4 rfl dX6_comesTo_22 rfl ?_
  refine s_iadd C 24 rfl dX6_comesTo_23 ?_
  refine s_ldc C 26 rfl dX6_comesTo_24 uu1369 ?_
  refine s_irem C 27 rfl dX6_comesTo_26 (by decide) ?_
  obtain ⟨h2, hf⟩ := ck_in hf
  refine s_iast (ws1 := (wM ad cI m_left m_bites m_many m_imageLeft m_imageBites m_imageMany m_wasLeft m_wasBites m_wasMany m_hasImage m_letterMany m_rowMany m_place m_seed m_kind m_figure m_imageKind m_imageFigure m_wasKind m_wasFigure m_letters m_row m_refused m_numbers (upd m_counted (((128 : Int32) * a1) + a2).toNatClampNeg (jrem ((m_counted (((128 : Int32) * a1) + a2).toNatClampNeg) + a3) (1000003 : Int32))) m_few)) C 28 11 rfl h2 rfl rfl dX6_comesTo_27 ?_
  refine s_aload_n C 29 1 rfl dX6_comesTo_28 rfl ?_
  refine s_get (C1 := RX6) (T := TX6) (N := 26) (ci := 5) C 32 0 24 uX6 rfl rfl (Nat.le_of_ble_eq_true rfl) uu1034 rfl rfl rfl dX6_comesTo_29 ?_
  refine s_iload C 34 0 rfl dX6_comesTo_32 rfl ?_
  refine s_aload_n C 35 1 rfl dX6_comesTo_34 rfl ?_
  refine s_get (C1 := RX6) (T := TX6) (N := 26) (ci := 5) C 38 0 24 uX6 rfl rfl (Nat.le_of_ble_eq_true rfl) uu1034 rfl rfl rfl dX6_comesTo_35 ?_
  refine s_iload C 40 0 rfl dX6_comesTo_38 rfl ?_
  obtain ⟨h3, hf⟩ := ck_in hf
  refine s_iald C 41 12 rfl h3 rfl dX6_comesTo_40 ?_
  refine s_iload C 43 5 rfl dX6_comesTo_41 rfl ?_
  obtain ⟨r4, q5, hf⟩ := bn_s hf
  refine s_callS0 (host := "") (rest := [.int (((128 : Int32) * a1) + a2), .ref (ad 12)]) C 46 (c_X6_least l D cI adK adV (m_few (((128 : Int32) * a1) + a2).toNatClampNeg) a4 r4 q5) (gS uu1141 uu1143 uu6 uu1144) hd_X6_least rfl ⟨rfl, rfl⟩ ⟨Nat.le_of_ble_eq_true rfl, Nat.le_of_ble_eq_true rfl⟩ ⟨Nat.le_of_ble_eq_true rfl, Nat.le_of_ble_eq_true rfl⟩ rfl (Nat.le_of_ble_eq_true rfl) rfl dX6_comesTo_43 ?_
  obtain ⟨h6, hf⟩ := ck_in hf
  refine s_iast (ws1 := (wM ad cI m_left m_bites m_many m_imageLeft m_imageBites m_imageMany m_wasLeft m_wasBites m_wasMany m_hasImage m_letterMany m_rowMany m_place m_seed m_kind m_figure m_imageKind m_imageFigure m_wasKind m_wasFigure m_letters m_row m_refused m_numbers (upd m_counted (((128 : Int32) * a1) + a2).toNatClampNeg (jrem ((m_counted (((128 : Int32) * a1) + a2).toNatClampNeg) + a3) (1000003 : Int32))) (upd m_few (((128 : Int32) * a1) + a2).toNatClampNeg r4))) C 47 12 rfl h6 rfl rfl dX6_comesTo_46 ?_
  obtain rfl := Option.some.inj hf
  exact s_vret C (fun i => i) hr hlk rfl rfl dX6_comesTo_47


theorem hd_X6_areTwo : yX6_areTwo.cls = RX6 ∧ yX6_areTwo.cls ≠ "java/lang/invoke/MethodHandle" ∧ yX6_areTwo.cls ≠ "java/lang/invoke/VarHandle" ∧ (parseMethodDescriptor yX6_areTwo.desc).map (fun d => d.parameters.length) = some 2 := by decide +kernel
set_option maxHeartbeats 4000000 in
set_option maxRecDepth 100000 in
theorem c_X6_areTwo (l : Launch) (D : va_G) (cI : ClassId) (adK adV : Nat → Nat) (ad : Nat → Nat) (m_left : Int32) (m_bites : Int32) (m_many : Int32) (m_imageLeft : Int32) (m_imageBites : Int32) (m_imageMany : Int32) (m_wasLeft : Int32) (m_wasBites : Int32) (m_wasMany : Int32) (m_hasImage : Int32) (m_letterMany : Int32) (m_rowMany : Int32) (m_place : Int32) (m_seed : Int32) (m_kind : (Nat → Int32)) (m_figure : (Nat → Int32)) (m_imageKind : (Nat → Int32)) (m_imageFigure : (Nat → Int32)) (m_wasKind : (Nat → Int32)) (m_wasFigure : (Nat → Int32)) (m_letters : (Nat → Int32)) (m_row : (Nat → Int32)) (m_refused : (Nat → Int32)) (m_numbers : (Nat → Int32)) (m_counted : (Nat → Int32)) (m_few : (Nat → Int32)) (a1 : Int32) (a2 : Int32) (o : Int32) (hf : f_X6_areTwo m_many a1 a2 = some o) : Ct l D cI adK adV yX6_areTwo (wy yX6_areTwo cX6_areTwo 3 (some .boolean)) { frames := 2, cells := 0, slots := 0, locals := 43 } 0 0 [.ref (ad 0), .int a1, .int a2] (wM ad cI m_left m_bites m_many m_imageLeft m_imageBites m_imageMany m_wasLeft m_wasBites m_wasMany m_hasImage m_letterMany m_rowMany m_place m_seed m_kind m_figure m_imageKind m_imageFigure m_wasKind m_wasFigure m_letters m_row m_refused m_numbers m_counted m_few) (fun _ => (wM ad cI m_left m_bites m_many m_imageLeft m_imageBites m_imageMany m_wasLeft m_wasBites m_wasMany m_hasImage m_letterMany m_rowMany m_place m_seed m_kind m_figure m_imageKind m_imageFigure m_wasKind m_wasFigure m_letters m_row m_refused m_numbers m_counted m_few)) (some (.int o)) := by
  refine Ct.of (cc := cX6_areTwo) (nL := 3) (ret := (some .boolean)) (own := RX6) (by decide) (Nat.le_of_ble_eq_true rfl) rfl ?_
  intro p e s m args below meth c A C hr hlk hnm
  refine s_lv (lv1 := [(0, .ref (ad 0)), (1, .int a1), (2, .int a2)]) [0, 1, 2] rfl ?_
  unfold f_X6_areTwo at hf
  refine s_aload_n C 1 0 rfl dX6_areTwo_0 rfl ?_
  refine s_iload_n C 2 1 rfl dX6_areTwo_1 rfl ?_
  obtain ⟨r1, q2, hf⟩ := bn_s hf
  refine s_callW (T := TX6) (N := 26) (ci := 5) (q0 := 0) (rest := []) C 5 (c_X6_isHeir l D cI adK adV ad m_left m_bites m_many m_imageLeft m_imageBites m_imageMany m_wasLeft m_wasBites m_wasMany m_hasImage m_letterMany m_rowMany m_place m_seed m_kind m_figure m_imageKind m_imageFigure m_wasKind m_wasFigure m_letters m_row m_refused m_numbers m_counted m_few a1 r1 q2) (gV uu1193 uu1195 uu1581 uu6 uu1196) hd_X6_isHeir rfl ⟨rfl, rfl⟩ ⟨Nat.le_of_ble_eq_true rfl, Nat.le_of_ble_eq_true rfl⟩ ⟨Nat.le_of_ble_eq_true rfl, Nat.le_of_ble_eq_true rfl⟩ rfl rfl rfl (Nat.le_of_ble_eq_true rfl) rfl dX6_areTwo_2 (fun _ => ?_)
  refine s_if_eq C 25 8 rfl dX6_areTwo_5 rfl (fun hc7 => ?_) (fun hc7 => ?_)
  · replace hf := ite_t hc7 hf
    refine s_iconst C 26 rfl dX6_areTwo_25 ic_0 ?_
    obtain rfl := Option.some.inj hf
    exact s_zret C (fun i => i) hr hlk (Or.inl rfl) rfl rfl dX6_areTwo_26
  · replace hf := ite_f hc7 hf
    refine s_aload_n C 9 0 rfl dX6_areTwo_8 rfl ?_
    refine s_iload_n C 10 2 rfl dX6_areTwo_9 rfl ?_
    obtain ⟨r3, q4, hf⟩ := bn_s hf
    refine s_callW (T := TX6) (N := 26) (ci := 5) (q0 := 0) (rest := []) C 13 (c_X6_isHeir l D cI adK adV ad m_left m_bites m_many m_imageLeft m_imageBites m_imageMany m_wasLeft m_wasBites m_wasMany m_hasImage m_letterMany m_rowMany m_place m_seed m_kind m_figure m_imageKind m_imageFigure m_wasKind m_wasFigure m_letters m_row m_refused m_numbers m_counted m_few a2 r3 q4) (gV uu1193 uu1195 uu1581 uu6 uu1196) hd_X6_isHeir rfl ⟨rfl, rfl⟩ ⟨Nat.le_of_ble_eq_true rfl, Nat.le_of_ble_eq_true rfl⟩ ⟨Nat.le_of_ble_eq_true rfl, Nat.le_of_ble_eq_true rfl⟩ rfl rfl rfl (Nat.le_of_ble_eq_true rfl) rfl dX6_areTwo_10 (fun _ => ?_)
    refine s_if_eq C 25 16 rfl dX6_areTwo_13 rfl (fun hc6 => ?_) (fun hc6 => ?_)
    · replace hf := ite_t hc6 hf
      refine s_iconst C 26 rfl dX6_areTwo_25 ic_0 ?_
      obtain rfl := Option.some.inj hf
      exact s_zret C (fun i => i) hr hlk (Or.inl rfl) rfl rfl dX6_areTwo_26
    · replace hf := ite_f hc6 hf
      refine s_iload_n C 17 1 rfl dX6_areTwo_16 rfl ?_
      refine s_iload_n C 18 2 rfl dX6_areTwo_17 rfl ?_
      refine s_icmp_eq C 25 21 rfl dX6_areTwo_18 rfl (fun hc5 => ?_) (fun hc5 => ?_)
      · replace hf := ite_t hc5 hf
        refine s_iconst C 26 rfl dX6_areTwo_25 ic_0 ?_
        obtain rfl := Option.some.inj hf
        exact s_zret C (fun i => i) hr hlk (Or.inl rfl) rfl rfl dX6_areTwo_26
      · replace hf := ite_f hc5 hf
        refine s_iconst C 22 rfl dX6_areTwo_21 ic_1 ?_
        refine s_goto C 26 dX6_areTwo_22 rfl ?_
        obtain rfl := Option.some.inj hf
        exact s_zret C (fun i => i) hr hlk (Or.inr rfl) rfl rfl dX6_areTwo_26


theorem hd_X6_stepsFrom : yX6_stepsFrom.cls = RX6 ∧ yX6_stepsFrom.cls ≠ "java/lang/invoke/MethodHandle" ∧ yX6_stepsFrom.cls ≠ "java/lang/invoke/VarHandle" ∧ (parseMethodDescriptor yX6_stepsFrom.desc).map (fun d => d.parameters.length) = some 1 := by decide +kernel
set_option maxHeartbeats 4000000 in
set_option maxRecDepth 100000 in
theorem c_X6_stepsFrom (l : Launch) (D : va_G) (cI : ClassId) (adK adV : Nat → Nat) (ad : Nat → Nat) (m_left : Int32) (m_bites : Int32) (m_many : Int32) (m_imageLeft : Int32) (m_imageBites : Int32) (m_imageMany : Int32) (m_wasLeft : Int32) (m_wasBites : Int32) (m_wasMany : Int32) (m_hasImage : Int32) (m_letterMany : Int32) (m_rowMany : Int32) (m_place : Int32) (m_seed : Int32) (m_kind : (Nat → Int32)) (m_figure : (Nat → Int32)) (m_imageKind : (Nat → Int32)) (m_imageFigure : (Nat → Int32)) (m_wasKind : (Nat → Int32)) (m_wasFigure : (Nat → Int32)) (m_letters : (Nat → Int32)) (m_row : (Nat → Int32)) (m_refused : (Nat → Int32)) (m_numbers : (Nat → Int32)) (m_counted : (Nat → Int32)) (m_few : (Nat → Int32)) (a1 : Int32) (o : Int32) (hf : f_X6_stepsFrom m_left a1 = some o) : Ct l D cI adK adV yX6_stepsFrom (wy yX6_stepsFrom cX6_stepsFrom 6 (some .int)) { frames := 1, cells := 0, slots := 0, locals := 21 } 0 0 [.ref (ad 0), .int a1] (wM ad cI m_left m_bites m_many m_imageLeft m_imageBites m_imageMany m_wasLeft m_wasBites m_wasMany m_hasImage m_letterMany m_rowMany m_place m_seed m_kind m_figure m_imageKind m_imageFigure m_wasKind m_wasFigure m_letters m_row m_refused m_numbers m_counted m_few) (fun _ => (wM ad cI m_left m_bites m_many m_imageLeft m_imageBites m_imageMany m_wasLeft m_wasBites m_wasMany m_hasImage m_letterMany m_rowMany m_place m_seed m_kind m_figure m_imageKind m_imageFigure m_wasKind m_wasFigure m_letters m_row m_refused m_numbers m_counted m_few)) (some (.int o)) := by
  refine Ct.of (cc := cX6_stepsFrom) (nL := 6) (ret := (some .int)) (own := RX6) (by decide) (Nat.le_of_ble_eq_true rfl) rfl ?_
  intro p e s m args below meth c A C hr hlk hnm
  refine s_lv (lv1 := [(0, .ref (ad 0)), (1, .int a1)]) [0, 1] rfl ?_
  unfold f_X6_stepsFrom at hf
  refine s_iconst C 1 rfl dX6_stepsFrom_0 ic_0 ?_
  refine s_istore_n (lv1 := [(2, .int (0 : Int32)), (0, .ref (ad 0)), (1, .int a1)]) C 2 2 rfl dX6_stepsFrom_1 rfl (Nat.le_of_ble_eq_true rfl) rfl ?_
  refine s_iconst C 3 rfl dX6_stepsFrom_2 ic_0 ?_
  refine s_istore_n (lv1 := [(3, .int (0 : Int32)), (2, .int (0 : Int32)), (0, .ref (ad 0)), (1, .int a1)]) C 4 3 rfl dX6_stepsFrom_3 rfl (Nat.le_of_ble_eq_true rfl) rfl ?_
  refine s_lv (lv1 := [(0, .ref (ad 0)), (1, .int a1), (2, .int (0 : Int32)), (3, .int (0 : Int32))]) [2, 3, 1, 0] rfl ?_
  refine s_loop (α := Int32 × Int32) (fun n v10 => f_X6_stepsFrom_4 a1 m_left n v10.1 v10.2) 4 (fun v10 => [(0, .ref (ad 0)), (1, .int a1), (2, .int v10.1), (3, .int v10.2)]) (fun v10 => (wM ad cI m_left m_bites m_many m_imageLeft m_imageBites m_imageMany m_wasLeft m_wasBites m_wasMany m_hasImage m_letterMany m_rowMany m_place m_seed m_kind m_figure m_imageKind m_imageFigure m_wasKind m_wasFigure m_letters m_row m_refused m_numbers m_counted m_few)) 1000 ((0 : Int32), (0 : Int32)) hf (fun v10 hf => by simp only [f_X6_stepsFrom_4] at hf; exact absurd hf (by simp)) (fun n ih11 v10 hf => ?_)
  replace hf := (f_X6_stepsFrom_4_s _ _ _ _ _).symm.trans hf
  refine s_iload_n C 5 3 rfl dX6_stepsFrom_4 rfl ?_
  refine s_bipush C 7 rfl dX6_stepsFrom_5 bp_25 ?_
  refine s_icmp_ge C 69 10 rfl dX6_stepsFrom_7 rfl (fun hc20 => ?_) (fun hc20 => ?_)
  · replace hf := ite_t hc20 hf
    refine s_iload_n C 70 2 rfl dX6_stepsFrom_69 rfl ?_
    obtain rfl := Option.some.inj hf
    exact s_iret C (fun i => i) hr hlk rfl rfl dX6_stepsFrom_70
  · replace hf := ite_f hc20 hf
    refine s_iload_n C 11 3 rfl dX6_stepsFrom_10 rfl ?_
    refine s_iconst C 12 rfl dX6_stepsFrom_11 ic_5 ?_
    refine s_idiv C 13 rfl dX6_stepsFrom_12 (by decide) ?_
    refine s_iload_n C 14 1 rfl dX6_stepsFrom_13 rfl ?_
    refine s_iconst C 15 rfl dX6_stepsFrom_14 ic_5 ?_
    refine s_idiv C 16 rfl dX6_stepsFrom_15 (by decide) ?_
    refine s_isub C 17 rfl dX6_stepsFrom_16 ?_
    refine s_istore (lv1 := [(4, .int ((v10.2 / (5 : Int32)) - (a1 / (5 : Int32)))), (0, .ref (ad 0)), (1, .int a1), (2, .int v10.1), (3, .int v10.2)]) C 19 4 rfl dX6_stepsFrom_17 (Nat.le_of_ble_eq_true rfl) rfl ?_
    refine s_iload_n C 20 4 rfl dX6_stepsFrom_19 rfl ?_
    refine s_iconst C 21 rfl dX6_stepsFrom_20 ic_5 ?_
    refine s_irem C 22 rfl dX6_stepsFrom_21 (by decide) ?_
    refine s_iload_n C 23 2 rfl dX6_stepsFrom_22 rfl ?_
    refine s_iconst C 24 rfl dX6_stepsFrom_23 ic_5 ?_
    refine s_irem C 25 rfl dX6_stepsFrom_24 (by decide) ?_
    refine s_isub C 26 rfl dX6_stepsFrom_25 ?_
    refine s_istore (lv1 := [(5, .int ((jrem v10.2 (5 : Int32)) - (jrem a1 (5 : Int32)))), (4, .int ((v10.2 / (5 : Int32)) - (a1 / (5 : Int32)))), (0, .ref (ad 0)), (1, .int a1), (2, .int v10.1), (3, .int v10.2)]) C 28 5 rfl dX6_stepsFrom_26 (Nat.le_of_ble_eq_true rfl) rfl ?_
    refine s_iload_n C 29 4 rfl dX6_stepsFrom_28 rfl ?_
    refine s_aload_n C 30 2 rfl dX6_stepsFrom_29 rfl ?_
    refine s_get (C1 := RX6) (T := TX6) (N := 26) (ci := 5) C 33 0 0 uX6 rfl rfl (Nat.le_of_ble_eq_true rfl) uu986 rfl rfl rfl dX6_stepsFrom_30 ?_
    refine s_iload_n C 34 5 rfl dX6_stepsFrom_33 rfl ?_
    obtain ⟨r12, q13, hf⟩ := bn_s hf
    refine s_callS0 (host := "") (rest := [.int v10.1]) C 37 (c_X6_has l D cI adK adV m_left v10.2 r12 q13) (gS uu1218 uu1220 uu6 uu1221) hd_X6_has rfl ⟨rfl, rfl⟩ ⟨Nat.le_of_ble_eq_true rfl, Nat.le_of_ble_eq_true rfl⟩ ⟨Nat.le_of_ble_eq_true rfl, Nat.le_of_ble_eq_true rfl⟩ rfl (Nat.le_of_ble_eq_true rfl) rfl dX6_stepsFrom_34 ?_
    refine s_bn (α := Int32) 61 (fun j14 => [(0, .ref (ad 0)), (1, .int a1), (3, .int v10.2)]) (fun j14 => [.int j14, .int v10.1]) (fun j14 => (wM ad cI m_left m_bites m_many m_imageLeft m_imageBites m_imageMany m_wasLeft m_wasBites m_wasMany m_hasImage m_letterMany m_rowMany m_place m_seed m_kind m_figure m_imageKind m_imageFigure m_wasKind m_wasFigure m_letters m_row m_refused m_numbers m_counted m_few)) hf (fun j14 hf => ?_) (fun hj hf => ?_)
    · refine s_iadd C 62 rfl dX6_stepsFrom_61 ?_
      refine s_istore_n (lv1 := [(2, .int (v10.1 + j14)), (0, .ref (ad 0)), (1, .int a1), (3, .int v10.2)]) C 63 2 rfl dX6_stepsFrom_62 rfl (Nat.le_of_ble_eq_true rfl) rfl ?_
      refine s_iinc (lv1 := [(3, .int (v10.2 + (1 : Int32))), (2, .int (v10.1 + j14)), (0, .ref (ad 0)), (1, .int a1)]) C 66 3 3 rfl dX6_stepsFrom_63 rfl ic_1 (Nat.le_of_ble_eq_true rfl) rfl ?_
      refine s_goto C 4 dX6_stepsFrom_66 rfl ?_
      exact s_lv [2, 3, 1, 0] rfl (ih11 ((v10.1 + j14, v10.2 + (1 : Int32)) : Int32 × Int32) hf)
    · refine s_if_eq C 60 40 rfl dX6_stepsFrom_37 rfl (fun hc19 => ?_) (fun hc19 => ?_)
      · replace hf := bn_t hc19 hf
        refine s_iconst C 61 rfl dX6_stepsFrom_60 ic_0 ?_
        replace hf := bn_i hf
        exact s_lv [2, 3, 5] rfl (hj ((0 : Int32) : Int32) hf)
      · replace hf := bn_f hc19 hf
        refine s_iload C 42 1 rfl dX6_stepsFrom_40 rfl ?_
        refine s_iload C 44 1 rfl dX6_stepsFrom_42 rfl ?_
        refine s_ineg C 45 rfl dX6_stepsFrom_44 ?_
        obtain ⟨r15, q16, hf⟩ := bn_b hf
        refine s_callS0 (host := "") (rest := [.int v10.1]) C 48 (c_X6_most l D cI adK adV ((v10.2 / (5 : Int32)) - (a1 / (5 : Int32))) (-((v10.2 / (5 : Int32)) - (a1 / (5 : Int32)))) r15 q16) (gS uu1223 uu1225 uu6 uu1226) hd_X6_most rfl ⟨rfl, rfl⟩ ⟨Nat.le_of_ble_eq_true rfl, Nat.le_of_ble_eq_true rfl⟩ ⟨Nat.le_of_ble_eq_true rfl, Nat.le_of_ble_eq_true rfl⟩ rfl (Nat.le_of_ble_eq_true rfl) rfl dX6_stepsFrom_45 ?_
        refine s_iload C 50 0 rfl dX6_stepsFrom_48 rfl ?_
        refine s_iload C 52 0 rfl dX6_stepsFrom_50 rfl ?_
        refine s_ineg C 53 rfl dX6_stepsFrom_52 ?_
        obtain ⟨r17, q18, hf⟩ := bn_b hf
        refine s_callS0 (host := "") (rest := [.int r15, .int v10.1]) C 56 (c_X6_most l D cI adK adV ((jrem v10.2 (5 : Int32)) - (jrem a1 (5 : Int32))) (-((jrem v10.2 (5 : Int32)) - (jrem a1 (5 : Int32)))) r17 q18) (gS uu1223 uu1225 uu6 uu1226) hd_X6_most rfl ⟨rfl, rfl⟩ ⟨Nat.le_of_ble_eq_true rfl, Nat.le_of_ble_eq_true rfl⟩ ⟨Nat.le_of_ble_eq_true rfl, Nat.le_of_ble_eq_true rfl⟩ rfl (Nat.le_of_ble_eq_true rfl) rfl dX6_stepsFrom_53 ?_
        refine s_iadd C 57 rfl dX6_stepsFrom_56 ?_
        refine s_goto C 61 dX6_stepsFrom_57 rfl ?_
        replace hf := bn_i hf
        exact s_lv [2, 3, 5] rfl (hj (r15 + r17 : Int32) hf)


theorem hd_X6_firstBite : yX6_firstBite.cls = RX6 ∧ yX6_firstBite.cls ≠ "java/lang/invoke/MethodHandle" ∧ yX6_firstBite.cls ≠ "java/lang/invoke/VarHandle" ∧ (parseMethodDescriptor yX6_firstBite.desc).map (fun d => d.parameters.length) = some 1 := by decide +kernel
set_option maxHeartbeats 4000000 in
set_option maxRecDepth 100000 in
theorem c_X6_firstBite (l : Launch) (D : va_G) (cI : ClassId) (adK adV : Nat → Nat) (ad : Nat → Nat) (m_left : Int32) (m_bites : Int32) (m_many : Int32) (m_imageLeft : Int32) (m_imageBites : Int32) (m_imageMany : Int32) (m_wasLeft : Int32) (m_wasBites : Int32) (m_wasMany : Int32) (m_hasImage : Int32) (m_letterMany : Int32) (m_rowMany : Int32) (m_place : Int32) (m_seed : Int32) (m_kind : (Nat → Int32)) (m_figure : (Nat → Int32)) (m_imageKind : (Nat → Int32)) (m_imageFigure : (Nat → Int32)) (m_wasKind : (Nat → Int32)) (m_wasFigure : (Nat → Int32)) (m_letters : (Nat → Int32)) (m_row : (Nat → Int32)) (m_refused : (Nat → Int32)) (m_numbers : (Nat → Int32)) (m_counted : (Nat → Int32)) (m_few : (Nat → Int32)) (a1 : Int32) (o : Int32) (hf : f_X6_firstBite a1 = some o) : Ct l D cI adK adV yX6_firstBite (wy yX6_firstBite cX6_firstBite 4 (some .int)) { frames := 2, cells := 0, slots := 0, locals := 46 } 0 0 [.ref (ad 0), .int a1] (wM ad cI m_left m_bites m_many m_imageLeft m_imageBites m_imageMany m_wasLeft m_wasBites m_wasMany m_hasImage m_letterMany m_rowMany m_place m_seed m_kind m_figure m_imageKind m_imageFigure m_wasKind m_wasFigure m_letters m_row m_refused m_numbers m_counted m_few) (fun _ => (wM ad cI m_left m_bites m_many m_imageLeft m_imageBites m_imageMany m_wasLeft m_wasBites m_wasMany m_hasImage m_letterMany m_rowMany m_place m_seed m_kind m_figure m_imageKind m_imageFigure m_wasKind m_wasFigure m_letters m_row m_refused m_numbers m_counted m_few)) (some (.int o)) := by
  refine Ct.of (cc := cX6_firstBite) (nL := 4) (ret := (some .int)) (own := RX6) (by decide) (Nat.le_of_ble_eq_true rfl) rfl ?_
  intro p e s m args below meth c A C hr hlk hnm
  refine s_lv (lv1 := [(0, .ref (ad 0)), (1, .int a1)]) [0, 1] rfl ?_
  unfold f_X6_firstBite at hf
  refine s_iconst C 1 rfl dX6_firstBite_0 ic_0 ?_
  refine s_istore_n (lv1 := [(2, .int (0 : Int32)), (0, .ref (ad 0)), (1, .int a1)]) C 2 2 rfl dX6_firstBite_1 rfl (Nat.le_of_ble_eq_true rfl) rfl ?_
  refine s_lv (lv1 := [(1, .int a1), (2, .int (0 : Int32))]) [2, 0] rfl ?_
  refine s_loop (α := Int32) (fun n v14 => f_X6_firstBite_2 a1 n v14) 2 (fun v14 => [(1, .int a1), (2, .int v14)]) (fun v14 => (wM ad cI m_left m_bites m_many m_imageLeft m_imageBites m_imageMany m_wasLeft m_wasBites m_wasMany m_hasImage m_letterMany m_rowMany m_place m_seed m_kind m_figure m_imageKind m_imageFigure m_wasKind m_wasFigure m_letters m_row m_refused m_numbers m_counted m_few)) 1000 (0 : Int32) hf (fun v14 hf => by simp only [f_X6_firstBite_2] at hf; exact absurd hf (by simp)) (fun n ih15 v14 hf => ?_)
  replace hf := (f_X6_firstBite_2_s _ _ _).symm.trans hf
  refine s_iload_n C 3 1 rfl dX6_firstBite_2 rfl ?_
  refine s_iconst C 4 rfl dX6_firstBite_3 ic_4 ?_
  refine s_icmp_ge C 43 7 rfl dX6_firstBite_4 rfl (fun hc24 => ?_) (fun hc24 => ?_)
  · replace hf := ite_t hc24 hf
    refine s_bipush C 45 rfl dX6_firstBite_43 bp_m9 ?_
    obtain rfl := Option.some.inj hf
    exact s_iret C (fun i => i) hr hlk rfl rfl dX6_firstBite_45
  · replace hf := ite_f hc24 hf
    refine s_iconst C 8 rfl dX6_firstBite_7 ic_0 ?_
    refine s_istore_n (lv1 := [(3, .int (0 : Int32)), (1, .int a1), (2, .int v14)]) C 9 3 rfl dX6_firstBite_8 rfl (Nat.le_of_ble_eq_true rfl) rfl ?_
    refine s_lv (lv1 := [(1, .int a1), (2, .int v14), (3, .int (0 : Int32))]) [1, 2, 0] rfl ?_
    refine s_kont (γ := Unit) (o := o) (fun KQ => f_X6_firstBite_9 a1 v14 KQ 1000 (0 : Int32) = some o) 37 (fun e17 => [(1, .int a1), (2, .int v14)]) (fun e17 => []) (fun e17 => (wM ad cI m_left m_bites m_many m_imageLeft m_imageBites m_imageMany m_wasLeft m_wasBites m_wasMany m_hasImage m_letterMany m_rowMany m_place m_seed m_kind m_figure m_imageKind m_imageFigure m_wasKind m_wasFigure m_letters m_row m_refused m_numbers m_counted m_few)) hf (fun e17 hf => ?_) (fun k16 hk16 hf => ?_)
    · refine s_iinc (lv1 := [(2, .int (v14 + (1 : Int32))), (1, .int a1)]) C 40 2 1 rfl dX6_firstBite_37 rfl ic_1 (Nat.le_of_ble_eq_true rfl) rfl ?_
      refine s_goto C 2 dX6_firstBite_40 rfl ?_
      exact s_lv [1, 0] rfl (ih15 (v14 + (1 : Int32) : Int32) hf)
    · skip
      refine s_loop (α := Int32) (fun n v18 => f_X6_firstBite_9 a1 v14 k16 n v18) 9 (fun v18 => [(1, .int a1), (2, .int v14), (3, .int v18)]) (fun v18 => (wM ad cI m_left m_bites m_many m_imageLeft m_imageBites m_imageMany m_wasLeft m_wasBites m_wasMany m_hasImage m_letterMany m_rowMany m_place m_seed m_kind m_figure m_imageKind m_imageFigure m_wasKind m_wasFigure m_letters m_row m_refused m_numbers m_counted m_few)) 1000 (0 : Int32) hf (fun v18 hf => by simp only [f_X6_firstBite_9] at hf; exact absurd hf (by simp)) (fun n ih19 v18 hf => ?_)
      replace hf := (f_X6_firstBite_9_s _ _ _ _ _).symm.trans hf
      refine s_iload_n C 10 2 rfl dX6_firstBite_9 rfl ?_
      refine s_bipush C 12 rfl dX6_firstBite_10 bp_25 ?_
      refine s_icmp_ge C 37 15 rfl dX6_firstBite_12 rfl (fun hc23 => ?_) (fun hc23 => ?_)
      · replace hf := ite_t hc23 hf
        exact s_lv [0, 1] rfl (hk16 (() : Unit) hf)
      · replace hf := ite_f hc23 hf
        refine s_iload_n C 16 0 rfl dX6_firstBite_15 rfl ?_
        refine s_iload_n C 17 1 rfl dX6_firstBite_16 rfl ?_
        refine s_iload_n C 18 2 rfl dX6_firstBite_17 rfl ?_
        obtain ⟨r20, q21, hf⟩ := bn_s hf
        refine s_callS0 (host := "") (rest := []) C 21 (c_X6_canBite l D cI adK adV a1 v14 v18 r20 q21) (gS uu1126 uu1128 uu6 uu1129) hd_X6_canBite rfl ⟨rfl, rfl⟩ ⟨Nat.le_of_ble_eq_true rfl, Nat.le_of_ble_eq_true rfl⟩ ⟨Nat.le_of_ble_eq_true rfl, Nat.le_of_ble_eq_true rfl⟩ rfl (Nat.le_of_ble_eq_true rfl) rfl dX6_firstBite_18 ?_
        refine s_if_eq C 31 24 rfl dX6_firstBite_21 rfl (fun hc22 => ?_) (fun hc22 => ?_)
        · replace hf := ite_t hc22 hf
          refine s_iinc (lv1 := [(3, .int (v18 + (1 : Int32))), (1, .int a1), (2, .int v14)]) C 34 3 2 rfl dX6_firstBite_31 rfl ic_1 (Nat.le_of_ble_eq_true rfl) rfl ?_
          refine s_goto C 9 dX6_firstBite_34 rfl ?_
          exact s_lv [1, 2, 0] rfl (ih19 (v18 + (1 : Int32) : Int32) hf)
        · replace hf := ite_f hc22 hf
          refine s_bipush C 26 rfl dX6_firstBite_24 bp_100 ?_
          refine s_iload_n C 27 1 rfl dX6_firstBite_26 rfl ?_
          refine s_imul C 28 rfl dX6_firstBite_27 ?_
          refine s_iload_n C 29 2 rfl dX6_firstBite_28 rfl ?_
          refine s_iadd C 30 rfl dX6_firstBite_29 ?_
          obtain rfl := Option.some.inj hf
          exact s_iret C (fun i => i) hr hlk rfl rfl dX6_firstBite_30


theorem hd_X6_shareBoth : yX6_shareBoth.cls = RX6 ∧ yX6_shareBoth.cls ≠ "java/lang/invoke/MethodHandle" ∧ yX6_shareBoth.cls ≠ "java/lang/invoke/VarHandle" ∧ (parseMethodDescriptor yX6_shareBoth.desc).map (fun d => d.parameters.length) = some 5 := by decide +kernel
set_option maxHeartbeats 4000000 in
set_option maxRecDepth 100000 in
theorem c_X6_shareBoth (l : Launch) (D : va_G) (cI : ClassId) (adK adV : Nat → Nat) (ad : Nat → Nat) (m_left : Int32) (m_bites : Int32) (m_many : Int32) (m_imageLeft : Int32) (m_imageBites : Int32) (m_imageMany : Int32) (m_wasLeft : Int32) (m_wasBites : Int32) (m_wasMany : Int32) (m_hasImage : Int32) (m_letterMany : Int32) (m_rowMany : Int32) (m_place : Int32) (m_seed : Int32) (m_kind : (Nat → Int32)) (m_figure : (Nat → Int32)) (m_imageKind : (Nat → Int32)) (m_imageFigure : (Nat → Int32)) (m_wasKind : (Nat → Int32)) (m_wasFigure : (Nat → Int32)) (m_letters : (Nat → Int32)) (m_row : (Nat → Int32)) (m_refused : (Nat → Int32)) (m_numbers : (Nat → Int32)) (m_counted : (Nat → Int32)) (m_few : (Nat → Int32)) (a1 : Int32) (a2 : Int32) (a3 : Int32) (a4 : Int32) (a5 : Int32) (o : Int32) (hf : f_X6_shareBoth m_left m_kind m_figure a1 a2 a3 a4 a5 = some o) : Ct l D cI adK adV yX6_shareBoth (wy yX6_shareBoth cX6_shareBoth 7 (some .int)) { frames := 6, cells := 0, slots := 0, locals := 145 } 0 0 [.ref (ad 0), .int a1, .int a2, .int a3, .int a4, .int a5] (wM ad cI m_left m_bites m_many m_imageLeft m_imageBites m_imageMany m_wasLeft m_wasBites m_wasMany m_hasImage m_letterMany m_rowMany m_place m_seed m_kind m_figure m_imageKind m_imageFigure m_wasKind m_wasFigure m_letters m_row m_refused m_numbers m_counted m_few) (fun _ => (wM ad cI m_left m_bites m_many m_imageLeft m_imageBites m_imageMany m_wasLeft m_wasBites m_wasMany m_hasImage m_letterMany m_rowMany m_place m_seed m_kind m_figure m_imageKind m_imageFigure m_wasKind m_wasFigure m_letters m_row m_refused m_numbers m_counted m_few)) (some (.int o)) := by
  refine Ct.of (cc := cX6_shareBoth) (nL := 7) (ret := (some .int)) (own := RX6) (by decide) (Nat.le_of_ble_eq_true rfl) rfl ?_
  intro p e s m args below meth c A C hr hlk hnm
  refine s_lv (lv1 := [(0, .ref (ad 0)), (1, .int a1), (2, .int a2), (3, .int a3), (4, .int a4), (5, .int a5)]) [0, 1, 2, 3, 4, 5] rfl ?_
  unfold f_X6_shareBoth at hf
  refine s_aload_n C 1 0 rfl dX6_shareBoth_0 rfl ?_
  refine s_get (C1 := RX6) (T := TX6) (N := 26) (ci := 5) C 4 0 0 uX6 rfl rfl (Nat.le_of_ble_eq_true rfl) uu986 rfl rfl rfl dX6_shareBoth_1 ?_
  refine s_iload_n C 5 3 rfl dX6_shareBoth_4 rfl ?_
  refine s_bn (α := Int32) 29 (fun j1 => [(0, .ref (ad 0)), (1, .int a1), (4, .int a4), (5, .int a5)]) (fun j1 => [.int j1, .int m_left]) (fun j1 => (wM ad cI m_left m_bites m_many m_imageLeft m_imageBites m_imageMany m_wasLeft m_wasBites m_wasMany m_hasImage m_letterMany m_rowMany m_place m_seed m_kind m_figure m_imageKind m_imageFigure m_wasKind m_wasFigure m_letters m_row m_refused m_numbers m_counted m_few)) hf (fun j1 hf => ?_) (fun hj hf => ?_)
  · obtain ⟨r7, q8, hf⟩ := bn_s hf
    refine s_callS0 (host := "") (rest := []) C 32 (c_X6_after l D cI adK adV m_left j1 r7 q8) (gS uu1317 uu1319 uu6 uu1320) hd_X6_after rfl ⟨rfl, rfl⟩ ⟨Nat.le_of_ble_eq_true rfl, Nat.le_of_ble_eq_true rfl⟩ ⟨Nat.le_of_ble_eq_true rfl, Nat.le_of_ble_eq_true rfl⟩ rfl (Nat.le_of_ble_eq_true rfl) rfl dX6_shareBoth_29 ?_
    refine s_istore (lv1 := [(6, .int r7), (0, .ref (ad 0)), (1, .int a1), (4, .int a4), (5, .int a5)]) C 34 6 rfl dX6_shareBoth_32 (Nat.le_of_ble_eq_true rfl) rfl ?_
    refine s_aload_n C 35 1 rfl dX6_shareBoth_34 rfl ?_
    refine s_iload C 37 0 rfl dX6_shareBoth_35 rfl ?_
    refine s_iload C 39 4 rfl dX6_shareBoth_37 rfl ?_
    refine s_if_ne C 54 42 rfl dX6_shareBoth_39 rfl (fun hc21 => ?_) (fun hc21 => ?_)
    · replace hf := ite_f hc21 hf
      refine s_aload_n C 55 1 rfl dX6_shareBoth_54 rfl ?_
      refine s_iload C 57 0 rfl dX6_shareBoth_55 rfl ?_
      obtain ⟨r9, q10, hf⟩ := bn_s hf
      refine s_callW (T := TX6) (N := 26) (ci := 5) (q0 := 0) (rest := [.int r7, .ref (ad 0)]) C 60 (c_X6_firstBite l D cI adK adV ad m_left m_bites m_many m_imageLeft m_imageBites m_imageMany m_wasLeft m_wasBites m_wasMany m_hasImage m_letterMany m_rowMany m_place m_seed m_kind m_figure m_imageKind m_imageFigure m_wasKind m_wasFigure m_letters m_row m_refused m_numbers m_counted m_few r7 r9 q10) (gV uu1439 uu1441 uu1593 uu6 uu1442) hd_X6_firstBite rfl ⟨rfl, rfl⟩ ⟨Nat.le_of_ble_eq_true rfl, Nat.le_of_ble_eq_true rfl⟩ ⟨Nat.le_of_ble_eq_true rfl, Nat.le_of_ble_eq_true rfl⟩ rfl rfl rfl (Nat.le_of_ble_eq_true rfl) rfl dX6_shareBoth_57 (fun _ => ?_)
      obtain ⟨r11, q12, hf⟩ := bn_s hf
      refine s_callS0 (host := "") (rest := [.ref (ad 0)]) C 63 (c_X6_after l D cI adK adV r7 r9 r11 q12) (gS uu1317 uu1319 uu6 uu1320) hd_X6_after rfl ⟨rfl, rfl⟩ ⟨Nat.le_of_ble_eq_true rfl, Nat.le_of_ble_eq_true rfl⟩ ⟨Nat.le_of_ble_eq_true rfl, Nat.le_of_ble_eq_true rfl⟩ rfl (Nat.le_of_ble_eq_true rfl) rfl dX6_shareBoth_60 ?_
      refine s_iload_n C 64 2 rfl dX6_shareBoth_63 rfl ?_
      obtain ⟨r13, q14, hf⟩ := bn_s hf
      refine s_callW (T := TX6) (N := 26) (ci := 5) (q0 := 0) (rest := []) C 67 (c_X6_shareOf l D cI adK adV ad m_left m_bites m_many m_imageLeft m_imageBites m_imageMany m_wasLeft m_wasBites m_wasMany m_hasImage m_letterMany m_rowMany m_place m_seed m_kind m_figure m_imageKind m_imageFigure m_wasKind m_wasFigure m_letters m_row m_refused m_numbers m_counted m_few r11 a1 r13 q14) (gV uu1198 uu1200 uu1582 uu6 uu1201) hd_X6_shareOf rfl ⟨rfl, rfl⟩ ⟨Nat.le_of_ble_eq_true rfl, Nat.le_of_ble_eq_true rfl⟩ ⟨Nat.le_of_ble_eq_true rfl, Nat.le_of_ble_eq_true rfl⟩ rfl rfl rfl (Nat.le_of_ble_eq_true rfl) rfl dX6_shareBoth_64 (fun _ => ?_)
      obtain rfl := Option.some.inj hf
      exact s_iret C (fun i => i) hr hlk rfl rfl dX6_shareBoth_67
    · replace hf := ite_t hc21 hf
      refine s_aload_n C 43 1 rfl dX6_shareBoth_42 rfl ?_
      refine s_iload C 45 0 rfl dX6_shareBoth_43 rfl ?_
      refine s_iload C 47 3 rfl dX6_shareBoth_45 rfl ?_
      refine s_iconst C 48 rfl dX6_shareBoth_47 ic_1 ?_
      obtain ⟨r15, q16, hf⟩ := bn_s hf
      refine s_callW (T := TX6) (N := 26) (ci := 5) (q0 := 0) (rest := [.int r7, .ref (ad 0)]) C 51 (c_X6_biteFor l D cI adK adV ad m_left m_bites m_many m_imageLeft m_imageBites m_imageMany m_wasLeft m_wasBites m_wasMany m_hasImage m_letterMany m_rowMany m_place m_seed m_kind m_figure m_imageKind m_imageFigure m_wasKind m_wasFigure m_letters m_row m_refused m_numbers m_counted m_few r7 a4 (1 : Int32) r15 q16) (gV uu1312 uu1314 uu1585 uu6 uu1315) hd_X6_biteFor rfl ⟨rfl, rfl⟩ ⟨Nat.le_of_ble_eq_true rfl, Nat.le_of_ble_eq_true rfl⟩ ⟨Nat.le_of_ble_eq_true rfl, Nat.le_of_ble_eq_true rfl⟩ rfl rfl rfl (Nat.le_of_ble_eq_true rfl) rfl dX6_shareBoth_48 (fun _ => ?_)
      refine s_goto C 60 dX6_shareBoth_51 rfl ?_
      obtain ⟨r17, q18, hf⟩ := bn_s hf
      refine s_callS0 (host := "") (rest := [.ref (ad 0)]) C 63 (c_X6_after l D cI adK adV r7 r15 r17 q18) (gS uu1317 uu1319 uu6 uu1320) hd_X6_after rfl ⟨rfl, rfl⟩ ⟨Nat.le_of_ble_eq_true rfl, Nat.le_of_ble_eq_true rfl⟩ ⟨Nat.le_of_ble_eq_true rfl, Nat.le_of_ble_eq_true rfl⟩ rfl (Nat.le_of_ble_eq_true rfl) rfl dX6_shareBoth_60 ?_
      refine s_iload_n C 64 2 rfl dX6_shareBoth_63 rfl ?_
      obtain ⟨r19, q20, hf⟩ := bn_s hf
      refine s_callW (T := TX6) (N := 26) (ci := 5) (q0 := 0) (rest := []) C 67 (c_X6_shareOf l D cI adK adV ad m_left m_bites m_many m_imageLeft m_imageBites m_imageMany m_wasLeft m_wasBites m_wasMany m_hasImage m_letterMany m_rowMany m_place m_seed m_kind m_figure m_imageKind m_imageFigure m_wasKind m_wasFigure m_letters m_row m_refused m_numbers m_counted m_few r17 a1 r19 q20) (gV uu1198 uu1200 uu1582 uu6 uu1201) hd_X6_shareOf rfl ⟨rfl, rfl⟩ ⟨Nat.le_of_ble_eq_true rfl, Nat.le_of_ble_eq_true rfl⟩ ⟨Nat.le_of_ble_eq_true rfl, Nat.le_of_ble_eq_true rfl⟩ rfl rfl rfl (Nat.le_of_ble_eq_true rfl) rfl dX6_shareBoth_64 (fun _ => ?_)
      obtain rfl := Option.some.inj hf
      exact s_iret C (fun i => i) hr hlk rfl rfl dX6_shareBoth_67
  · refine s_if_ne C 21 8 rfl dX6_shareBoth_5 rfl (fun hc6 => ?_) (fun hc6 => ?_)
    · replace hf := bn_f hc6 hf
      refine s_aload_n C 22 0 rfl dX6_shareBoth_21 rfl ?_
      refine s_aload_n C 23 0 rfl dX6_shareBoth_22 rfl ?_
      refine s_get (C1 := RX6) (T := TX6) (N := 26) (ci := 5) C 26 0 0 uX6 rfl rfl (Nat.le_of_ble_eq_true rfl) uu986 rfl rfl rfl dX6_shareBoth_23 ?_
      obtain ⟨r2, q3, hf⟩ := bn_b hf
      refine s_callW (T := TX6) (N := 26) (ci := 5) (q0 := 0) (rest := [.int m_left]) C 29 (c_X6_firstBite l D cI adK adV ad m_left m_bites m_many m_imageLeft m_imageBites m_imageMany m_wasLeft m_wasBites m_wasMany m_hasImage m_letterMany m_rowMany m_place m_seed m_kind m_figure m_imageKind m_imageFigure m_wasKind m_wasFigure m_letters m_row m_refused m_numbers m_counted m_few m_left r2 q3) (gV uu1439 uu1441 uu1593 uu6 uu1442) hd_X6_firstBite rfl ⟨rfl, rfl⟩ ⟨Nat.le_of_ble_eq_true rfl, Nat.le_of_ble_eq_true rfl⟩ ⟨Nat.le_of_ble_eq_true rfl, Nat.le_of_ble_eq_true rfl⟩ rfl rfl rfl (Nat.le_of_ble_eq_true rfl) rfl dX6_shareBoth_26 (fun _ => ?_)
      replace hf := bn_i hf
      exact s_lv [0, 1, 4, 5] rfl (hj (r2 : Int32) hf)
    · replace hf := bn_t hc6 hf
      refine s_aload_n C 9 0 rfl dX6_shareBoth_8 rfl ?_
      refine s_aload_n C 10 0 rfl dX6_shareBoth_9 rfl ?_
      refine s_get (C1 := RX6) (T := TX6) (N := 26) (ci := 5) C 13 0 0 uX6 rfl rfl (Nat.le_of_ble_eq_true rfl) uu986 rfl rfl rfl dX6_shareBoth_10 ?_
      refine s_iload_n C 14 2 rfl dX6_shareBoth_13 rfl ?_
      refine s_iconst C 15 rfl dX6_shareBoth_14 ic_1 ?_
      obtain ⟨r4, q5, hf⟩ := bn_b hf
      refine s_callW (T := TX6) (N := 26) (ci := 5) (q0 := 0) (rest := [.int m_left]) C 18 (c_X6_biteFor l D cI adK adV ad m_left m_bites m_many m_imageLeft m_imageBites m_imageMany m_wasLeft m_wasBites m_wasMany m_hasImage m_letterMany m_rowMany m_place m_seed m_kind m_figure m_imageKind m_imageFigure m_wasKind m_wasFigure m_letters m_row m_refused m_numbers m_counted m_few m_left a2 (1 : Int32) r4 q5) (gV uu1312 uu1314 uu1585 uu6 uu1315) hd_X6_biteFor rfl ⟨rfl, rfl⟩ ⟨Nat.le_of_ble_eq_true rfl, Nat.le_of_ble_eq_true rfl⟩ ⟨Nat.le_of_ble_eq_true rfl, Nat.le_of_ble_eq_true rfl⟩ rfl rfl rfl (Nat.le_of_ble_eq_true rfl) rfl dX6_shareBoth_15 (fun _ => ?_)
      refine s_goto C 29 dX6_shareBoth_18 rfl ?_
      replace hf := bn_i hf
      exact s_lv [0, 1, 4, 5] rfl (hj (r4 : Int32) hf)


theorem hd_X6_waysFor : yX6_waysFor.cls = RX6 ∧ yX6_waysFor.cls ≠ "java/lang/invoke/MethodHandle" ∧ yX6_waysFor.cls ≠ "java/lang/invoke/VarHandle" ∧ (parseMethodDescriptor yX6_waysFor.desc).map (fun d => d.parameters.length) = some 4 := by decide +kernel
set_option maxHeartbeats 4000000 in
set_option maxRecDepth 100000 in
theorem c_X6_waysFor_0 (l : Launch) (D : va_G) (cI : ClassId) (adK adV : Nat → Nat) (ad : Nat → Nat) (m_left : Int32) (m_bites : Int32) (m_many : Int32) (m_imageLeft : Int32) (m_imageBites : Int32) (m_imageMany : Int32) (m_wasLeft : Int32) (m_wasBites : Int32) (m_wasMany : Int32) (m_hasImage : Int32) (m_letterMany : Int32) (m_rowMany : Int32) (m_place : Int32) (m_seed : Int32) (m_kind : (Nat → Int32)) (m_figure : (Nat → Int32)) (m_imageKind : (Nat → Int32)) (m_imageFigure : (Nat → Int32)) (m_wasKind : (Nat → Int32)) (m_wasFigure : (Nat → Int32)) (m_letters : (Nat → Int32)) (m_row : (Nat → Int32)) (m_refused : (Nat → Int32)) (m_numbers : (Nat → Int32)) (m_counted : (Nat → Int32)) (m_few : (Nat → Int32)) (a1 : Int32) (a2 : Int32) (a3 : Int32) (a4 : Int32) (o : Int64) (hf : f_X6_waysFor_0 m_kind m_figure a1 a2 a3 a4 = some o) : Ct l D cI adK adV yX6_waysFor (wy yX6_waysFor cX6_waysFor 8 (some .long)) { frames := 5, cells := 0, slots := 0, locals := 117 } 0 0 [.ref (ad 0), .int a1, .int a2, .int a3, .int a4] (wM ad cI m_left m_bites m_many m_imageLeft m_imageBites m_imageMany m_wasLeft m_wasBites m_wasMany m_hasImage m_letterMany m_rowMany m_place m_seed m_kind m_figure m_imageKind m_imageFigure m_wasKind m_wasFigure m_letters m_row m_refused m_numbers m_counted m_few) (fun _ => (wM ad cI m_left m_bites m_many m_imageLeft m_imageBites m_imageMany m_wasLeft m_wasBites m_wasMany m_hasImage m_letterMany m_rowMany m_place m_seed m_kind m_figure m_imageKind m_imageFigure m_wasKind m_wasFigure m_letters m_row m_refused m_numbers m_counted m_few)) (some (.long o)) := by
  refine Ct.of (cc := cX6_waysFor) (nL := 8) (ret := (some .long)) (own := RX6) (by decide) (Nat.le_of_ble_eq_true rfl) rfl ?_
  intro p e s m args below meth c A C hr hlk hnm
  refine s_lv (lv1 := [(0, .ref (ad 0)), (1, .int a1), (2, .int a2), (3, .int a3), (4, .int a4)]) [0, 1, 2, 3, 4] rfl ?_
  unfold f_X6_waysFor_0 at hf
  refine s_iload C 2 4 rfl dX6_waysFor_0 rfl ?_
  refine s_if_eq C 9 5 rfl dX6_waysFor_2 rfl (fun hc22 => ?_) (fun hc22 => ?_)
  · replace hf := ite_t hc22 hf
    refine s_aload_n C 10 0 rfl dX6_waysFor_9 rfl ?_
    refine s_iload_n C 11 1 rfl dX6_waysFor_10 rfl ?_
    refine s_iload_n C 12 2 rfl dX6_waysFor_11 rfl ?_
    obtain ⟨r1, q2, hf⟩ := bn_s hf
    refine s_callW (T := TX6) (N := 26) (ci := 5) (q0 := 0) (rest := []) C 15 (c_X6_shareOf l D cI adK adV ad m_left m_bites m_many m_imageLeft m_imageBites m_imageMany m_wasLeft m_wasBites m_wasMany m_hasImage m_letterMany m_rowMany m_place m_seed m_kind m_figure m_imageKind m_imageFigure m_wasKind m_wasFigure m_letters m_row m_refused m_numbers m_counted m_few a1 a2 r1 q2) (gV uu1198 uu1200 uu1582 uu6 uu1201) hd_X6_shareOf rfl ⟨rfl, rfl⟩ ⟨Nat.le_of_ble_eq_true rfl, Nat.le_of_ble_eq_true rfl⟩ ⟨Nat.le_of_ble_eq_true rfl, Nat.le_of_ble_eq_true rfl⟩ rfl rfl rfl (Nat.le_of_ble_eq_true rfl) rfl dX6_waysFor_12 (fun _ => ?_)
    refine s_iload_n C 16 3 rfl dX6_waysFor_15 rfl ?_
    refine s_icmp_lt C 23 19 rfl dX6_waysFor_16 rfl (fun hc3 => ?_) (fun hc3 => ?_)
    · replace hf := ite_t hc3 hf
      refine s_lconst C 24 rfl dX6_waysFor_23 lc_0 ?_
      obtain rfl := Option.some.inj hf
      exact s_lret C (fun i => i) hr hlk rfl rfl dX6_waysFor_24
    · replace hf := ite_f hc3 hf
      refine s_lconst C 20 rfl dX6_waysFor_19 lc_1 ?_
      refine s_goto C 24 dX6_waysFor_20 rfl ?_
      obtain rfl := Option.some.inj hf
      exact s_lret C (fun i => i) hr hlk rfl rfl dX6_waysFor_24
  · replace hf := ite_f hc22 hf
    refine s_iload_n C 6 1 rfl dX6_waysFor_5 rfl ?_
    refine s_if_ne C 25 9 rfl dX6_waysFor_6 rfl (fun hc21 => ?_) (fun hc21 => ?_)
    · replace hf := ite_f hc21 hf
      refine s_lconst C 26 rfl dX6_waysFor_25 lc_0 ?_
      refine s_lstore (lv1 := [(5, .long (0 : Int64)), (0, .ref (ad 0)), (1, .int a1), (2, .int a2), (3, .int a3), (4, .int a4)]) C 28 5 rfl dX6_waysFor_26 (Nat.le_of_ble_eq_true rfl) rfl ?_
      refine s_iconst C 29 rfl dX6_waysFor_28 ic_0 ?_
      refine s_istore (lv1 := [(7, .int (0 : Int32)), (5, .long (0 : Int64)), (0, .ref (ad 0)), (1, .int a1), (2, .int a2), (3, .int a3), (4, .int a4)]) C 31 7 rfl dX6_waysFor_29 (Nat.le_of_ble_eq_true rfl) rfl ?_
      refine s_lv (lv1 := [(0, .ref (ad 0)), (1, .int a1), (2, .int a2), (3, .int a3), (4, .int a4), (5, .long (0 : Int64)), (7, .int (0 : Int32))]) [2, 3, 4, 5, 6, 1, 0] rfl ?_
      refine s_loop (α := Int64 × Int32) (fun n v10 => f_X6_waysFor_0_31 a1 n v10.1 v10.2) 31 (fun v10 => [(0, .ref (ad 0)), (1, .int a1), (2, .int a2), (3, .int a3), (4, .int a4), (5, .long v10.1), (7, .int v10.2)]) (fun v10 => (wM ad cI m_left m_bites m_many m_imageLeft m_imageBites m_imageMany m_wasLeft m_wasBites m_wasMany m_hasImage m_letterMany m_rowMany m_place m_seed m_kind m_figure m_imageKind m_imageFigure m_wasKind m_wasFigure m_letters m_row m_refused m_numbers m_counted m_few)) 1000 ((0 : Int64), (0 : Int32)) hf (fun v10 hf => by simp only [f_X6_waysFor_0_31] at hf; exact absurd hf (by simp)) (fun n ih11 v10 hf => ?_)
      replace hf := (f_X6_waysFor_0_31_s _ _ _ _).symm.trans hf
      refine s_iload C 33 6 rfl dX6_waysFor_31 rfl ?_
      refine s_bipush C 35 rfl dX6_waysFor_33 bp_25 ?_
      refine s_icmp_ge C 80 38 rfl dX6_waysFor_35 rfl (fun hc17 => ?_) (fun hc17 => ?_)
      · replace hf := ite_t hc17 hf
        refine s_lload C 82 5 rfl dX6_waysFor_80 rfl ?_
        obtain rfl := Option.some.inj hf
        exact s_lret C (fun i => i) hr hlk rfl rfl dX6_waysFor_82
      · replace hf := ite_f hc17 hf
        refine s_lload C 40 5 rfl dX6_waysFor_38 rfl ?_
        refine s_iload_n C 41 1 rfl dX6_waysFor_40 rfl ?_
        refine s_iload C 43 6 rfl dX6_waysFor_41 rfl ?_
        obtain ⟨r12, q13, hf⟩ := bn_s hf
        refine s_callS0 (host := "") (rest := [.long v10.1]) C 46 (c_X6_has l D cI adK adV a1 v10.2 r12 q13) (gS uu1218 uu1220 uu6 uu1221) hd_X6_has rfl ⟨rfl, rfl⟩ ⟨Nat.le_of_ble_eq_true rfl, Nat.le_of_ble_eq_true rfl⟩ ⟨Nat.le_of_ble_eq_true rfl, Nat.le_of_ble_eq_true rfl⟩ rfl (Nat.le_of_ble_eq_true rfl) rfl dX6_waysFor_43 ?_
        refine s_bn (α := Int64) 71 (fun j14 => [(0, .ref (ad 0)), (1, .int a1), (2, .int a2), (3, .int a3), (4, .int a4), (7, .int v10.2)]) (fun j14 => [.long j14, .long v10.1]) (fun j14 => (wM ad cI m_left m_bites m_many m_imageLeft m_imageBites m_imageMany m_wasLeft m_wasBites m_wasMany m_hasImage m_letterMany m_rowMany m_place m_seed m_kind m_figure m_imageKind m_imageFigure m_wasKind m_wasFigure m_letters m_row m_refused m_numbers m_counted m_few)) hf (fun j14 hf => ?_) (fun hj hf => ?_)
        · refine s_ladd C 72 rfl dX6_waysFor_71 ?_
          refine s_lstore (lv1 := [(5, .long (v10.1 + j14)), (0, .ref (ad 0)), (1, .int a1), (2, .int a2), (3, .int a3), (4, .int a4), (7, .int v10.2)]) C 74 5 rfl dX6_waysFor_72 (Nat.le_of_ble_eq_true rfl) rfl ?_
          refine s_iinc (lv1 := [(7, .int (v10.2 + (1 : Int32))), (5, .long (v10.1 + j14)), (0, .ref (ad 0)), (1, .int a1), (2, .int a2), (3, .int a3), (4, .int a4)]) C 77 7 6 rfl dX6_waysFor_74 rfl ic_1 (Nat.le_of_ble_eq_true rfl) rfl ?_
          refine s_goto C 31 dX6_waysFor_77 rfl ?_
          exact s_lv [2, 3, 4, 5, 6, 1, 0] rfl (ih11 ((v10.1 + j14, v10.2 + (1 : Int32)) : Int64 × Int32) hf)
        · refine s_if_eq C 70 49 rfl dX6_waysFor_46 rfl (fun hc16 => ?_) (fun hc16 => ?_)
          · replace hf := bn_t hc16 hf
            refine s_lconst C 71 rfl dX6_waysFor_70 lc_0 ?_
            replace hf := bn_i hf
            exact s_lv [0, 1, 2, 3, 4, 6] rfl (hj ((0 : Int64) : Int64) hf)
          · replace hf := bn_f hc16 hf
            refine s_aload_n C 50 0 rfl dX6_waysFor_49 rfl ?_
            refine s_iload_n C 51 1 rfl dX6_waysFor_50 rfl ?_
            refine s_iconst C 52 rfl dX6_waysFor_51 ic_1 ?_
            refine s_iload C 54 6 rfl dX6_waysFor_52 rfl ?_
            refine s_ishl C 55 rfl dX6_waysFor_54 ?_
            refine s_iconst C 56 rfl dX6_waysFor_55 ic_m1 ?_
            refine s_ixor C 57 rfl dX6_waysFor_56 ?_
            refine s_iand C 58 rfl dX6_waysFor_57 ?_
            refine s_iload_n C 59 2 rfl dX6_waysFor_58 rfl ?_
            refine s_iload_n C 60 3 rfl dX6_waysFor_59 rfl ?_
            refine s_iload C 62 4 rfl dX6_waysFor_60 rfl ?_
            refine s_iconst C 63 rfl dX6_waysFor_62 ic_1 ?_
            refine s_isub C 64 rfl dX6_waysFor_63 ?_
            cases hf
    · replace hf := ite_t hc21 hf
      refine s_aload_n C 10 0 rfl dX6_waysFor_9 rfl ?_
      refine s_iload_n C 11 1 rfl dX6_waysFor_10 rfl ?_
      refine s_iload_n C 12 2 rfl dX6_waysFor_11 rfl ?_
      obtain ⟨r18, q19, hf⟩ := bn_s hf
      refine s_callW (T := TX6) (N := 26) (ci := 5) (q0 := 0) (rest := []) C 15 (c_X6_shareOf l D cI adK adV ad m_left m_bites m_many m_imageLeft m_imageBites m_imageMany m_wasLeft m_wasBites m_wasMany m_hasImage m_letterMany m_rowMany m_place m_seed m_kind m_figure m_imageKind m_imageFigure m_wasKind m_wasFigure m_letters m_row m_refused m_numbers m_counted m_few a1 a2 r18 q19) (gV uu1198 uu1200 uu1582 uu6 uu1201) hd_X6_shareOf rfl ⟨rfl, rfl⟩ ⟨Nat.le_of_ble_eq_true rfl, Nat.le_of_ble_eq_true rfl⟩ ⟨Nat.le_of_ble_eq_true rfl, Nat.le_of_ble_eq_true rfl⟩ rfl rfl rfl (Nat.le_of_ble_eq_true rfl) rfl dX6_waysFor_12 (fun _ => ?_)
      refine s_iload_n C 16 3 rfl dX6_waysFor_15 rfl ?_
      refine s_icmp_lt C 23 19 rfl dX6_waysFor_16 rfl (fun hc20 => ?_) (fun hc20 => ?_)
      · replace hf := ite_t hc20 hf
        refine s_lconst C 24 rfl dX6_waysFor_23 lc_0 ?_
        obtain rfl := Option.some.inj hf
        exact s_lret C (fun i => i) hr hlk rfl rfl dX6_waysFor_24
      · replace hf := ite_f hc20 hf
        refine s_lconst C 20 rfl dX6_waysFor_19 lc_1 ?_
        refine s_goto C 24 dX6_waysFor_20 rfl ?_
        obtain rfl := Option.some.inj hf
        exact s_lret C (fun i => i) hr hlk rfl rfl dX6_waysFor_24



set_option maxHeartbeats 4000000 in
set_option maxRecDepth 100000 in
theorem c_X6_waysFor_1 (l : Launch) (D : va_G) (cI : ClassId) (adK adV : Nat → Nat) (ad : Nat → Nat) (m_left : Int32) (m_bites : Int32) (m_many : Int32) (m_imageLeft : Int32) (m_imageBites : Int32) (m_imageMany : Int32) (m_wasLeft : Int32) (m_wasBites : Int32) (m_wasMany : Int32) (m_hasImage : Int32) (m_letterMany : Int32) (m_rowMany : Int32) (m_place : Int32) (m_seed : Int32) (m_kind : (Nat → Int32)) (m_figure : (Nat → Int32)) (m_imageKind : (Nat → Int32)) (m_imageFigure : (Nat → Int32)) (m_wasKind : (Nat → Int32)) (m_wasFigure : (Nat → Int32)) (m_letters : (Nat → Int32)) (m_row : (Nat → Int32)) (m_refused : (Nat → Int32)) (m_numbers : (Nat → Int32)) (m_counted : (Nat → Int32)) (m_few : (Nat → Int32)) (a1 : Int32) (a2 : Int32) (a3 : Int32) (a4 : Int32) (o : Int64) (hf : f_X6_waysFor_1 m_kind m_figure a1 a2 a3 a4 = some o) : Ct l D cI adK adV yX6_waysFor (wy yX6_waysFor cX6_waysFor 8 (some .long)) { frames := 6, cells := 0, slots := 0, locals := 144 } 0 0 [.ref (ad 0), .int a1, .int a2, .int a3, .int a4] (wM ad cI m_left m_bites m_many m_imageLeft m_imageBites m_imageMany m_wasLeft m_wasBites m_wasMany m_hasImage m_letterMany m_rowMany m_place m_seed m_kind m_figure m_imageKind m_imageFigure m_wasKind m_wasFigure m_letters m_row m_refused m_numbers m_counted m_few) (fun _ => (wM ad cI m_left m_bites m_many m_imageLeft m_imageBites m_imageMany m_wasLeft m_wasBites m_wasMany m_hasImage m_letterMany m_rowMany m_place m_seed m_kind m_figure m_imageKind m_imageFigure m_wasKind m_wasFigure m_letters m_row m_refused m_numbers m_counted m_few)) (some (.long o)) := by
  refine Ct.of (cc := cX6_waysFor) (nL := 8) (ret := (some .long)) (own := RX6) (by decide) (Nat.le_of_ble_eq_true rfl) rfl ?_
  intro p e s m args below meth c A C hr hlk hnm
  refine s_lv (lv1 := [(0, .ref (ad 0)), (1, .int a1), (2, .int a2), (3, .int a3), (4, .int a4)]) [0, 1, 2, 3, 4] rfl ?_
  unfold f_X6_waysFor_1 at hf
  refine s_iload C 2 4 rfl dX6_waysFor_0 rfl ?_
  refine s_if_eq C 9 5 rfl dX6_waysFor_2 rfl (fun hc24 => ?_) (fun hc24 => ?_)
  · replace hf := ite_t hc24 hf
    refine s_aload_n C 10 0 rfl dX6_waysFor_9 rfl ?_
    refine s_iload_n C 11 1 rfl dX6_waysFor_10 rfl ?_
    refine s_iload_n C 12 2 rfl dX6_waysFor_11 rfl ?_
    obtain ⟨r1, q2, hf⟩ := bn_s hf
    refine s_callW (T := TX6) (N := 26) (ci := 5) (q0 := 0) (rest := []) C 15 (c_X6_shareOf l D cI adK adV ad m_left m_bites m_many m_imageLeft m_imageBites m_imageMany m_wasLeft m_wasBites m_wasMany m_hasImage m_letterMany m_rowMany m_place m_seed m_kind m_figure m_imageKind m_imageFigure m_wasKind m_wasFigure m_letters m_row m_refused m_numbers m_counted m_few a1 a2 r1 q2) (gV uu1198 uu1200 uu1582 uu6 uu1201) hd_X6_shareOf rfl ⟨rfl, rfl⟩ ⟨Nat.le_of_ble_eq_true rfl, Nat.le_of_ble_eq_true rfl⟩ ⟨Nat.le_of_ble_eq_true rfl, Nat.le_of_ble_eq_true rfl⟩ rfl rfl rfl (Nat.le_of_ble_eq_true rfl) rfl dX6_waysFor_12 (fun _ => ?_)
    refine s_iload_n C 16 3 rfl dX6_waysFor_15 rfl ?_
    refine s_icmp_lt C 23 19 rfl dX6_waysFor_16 rfl (fun hc3 => ?_) (fun hc3 => ?_)
    · replace hf := ite_t hc3 hf
      refine s_lconst C 24 rfl dX6_waysFor_23 lc_0 ?_
      obtain rfl := Option.some.inj hf
      exact s_lret C (fun i => i) hr hlk rfl rfl dX6_waysFor_24
    · replace hf := ite_f hc3 hf
      refine s_lconst C 20 rfl dX6_waysFor_19 lc_1 ?_
      refine s_goto C 24 dX6_waysFor_20 rfl ?_
      obtain rfl := Option.some.inj hf
      exact s_lret C (fun i => i) hr hlk rfl rfl dX6_waysFor_24
  · replace hf := ite_f hc24 hf
    refine s_iload_n C 6 1 rfl dX6_waysFor_5 rfl ?_
    refine s_if_ne C 25 9 rfl dX6_waysFor_6 rfl (fun hc23 => ?_) (fun hc23 => ?_)
    · replace hf := ite_f hc23 hf
      refine s_lconst C 26 rfl dX6_waysFor_25 lc_0 ?_
      refine s_lstore (lv1 := [(5, .long (0 : Int64)), (0, .ref (ad 0)), (1, .int a1), (2, .int a2), (3, .int a3), (4, .int a4)]) C 28 5 rfl dX6_waysFor_26 (Nat.le_of_ble_eq_true rfl) rfl ?_
      refine s_iconst C 29 rfl dX6_waysFor_28 ic_0 ?_
      refine s_istore (lv1 := [(7, .int (0 : Int32)), (5, .long (0 : Int64)), (0, .ref (ad 0)), (1, .int a1), (2, .int a2), (3, .int a3), (4, .int a4)]) C 31 7 rfl dX6_waysFor_29 (Nat.le_of_ble_eq_true rfl) rfl ?_
      refine s_lv (lv1 := [(0, .ref (ad 0)), (1, .int a1), (2, .int a2), (3, .int a3), (4, .int a4), (5, .long (0 : Int64)), (7, .int (0 : Int32))]) [2, 3, 4, 5, 6, 1, 0] rfl ?_
      refine s_loop (α := Int64 × Int32) (fun n v11 => f_X6_waysFor_1_31 a1 a2 a3 a4 m_kind m_figure n v11.1 v11.2) 31 (fun v11 => [(0, .ref (ad 0)), (1, .int a1), (2, .int a2), (3, .int a3), (4, .int a4), (5, .long v11.1), (7, .int v11.2)]) (fun v11 => (wM ad cI m_left m_bites m_many m_imageLeft m_imageBites m_imageMany m_wasLeft m_wasBites m_wasMany m_hasImage m_letterMany m_rowMany m_place m_seed m_kind m_figure m_imageKind m_imageFigure m_wasKind m_wasFigure m_letters m_row m_refused m_numbers m_counted m_few)) 1000 ((0 : Int64), (0 : Int32)) hf (fun v11 hf => by simp only [f_X6_waysFor_1_31] at hf; exact absurd hf (by simp)) (fun n ih12 v11 hf => ?_)
      replace hf := (f_X6_waysFor_1_31_s _ _ _ _ _ _ _ _ _).symm.trans hf
      refine s_iload C 33 6 rfl dX6_waysFor_31 rfl ?_
      refine s_bipush C 35 rfl dX6_waysFor_33 bp_25 ?_
      refine s_icmp_ge C 80 38 rfl dX6_waysFor_35 rfl (fun hc19 => ?_) (fun hc19 => ?_)
      · replace hf := ite_t hc19 hf
        refine s_lload C 82 5 rfl dX6_waysFor_80 rfl ?_
        obtain rfl := Option.some.inj hf
        exact s_lret C (fun i => i) hr hlk rfl rfl dX6_waysFor_82
      · replace hf := ite_f hc19 hf
        refine s_lload C 40 5 rfl dX6_waysFor_38 rfl ?_
        refine s_iload_n C 41 1 rfl dX6_waysFor_40 rfl ?_
        refine s_iload C 43 6 rfl dX6_waysFor_41 rfl ?_
        obtain ⟨r13, q14, hf⟩ := bn_s hf
        refine s_callS0 (host := "") (rest := [.long v11.1]) C 46 (c_X6_has l D cI adK adV a1 v11.2 r13 q14) (gS uu1218 uu1220 uu6 uu1221) hd_X6_has rfl ⟨rfl, rfl⟩ ⟨Nat.le_of_ble_eq_true rfl, Nat.le_of_ble_eq_true rfl⟩ ⟨Nat.le_of_ble_eq_true rfl, Nat.le_of_ble_eq_true rfl⟩ rfl (Nat.le_of_ble_eq_true rfl) rfl dX6_waysFor_43 ?_
        refine s_bn (α := Int64) 71 (fun j15 => [(0, .ref (ad 0)), (1, .int a1), (2, .int a2), (3, .int a3), (4, .int a4), (7, .int v11.2)]) (fun j15 => [.long j15, .long v11.1]) (fun j15 => (wM ad cI m_left m_bites m_many m_imageLeft m_imageBites m_imageMany m_wasLeft m_wasBites m_wasMany m_hasImage m_letterMany m_rowMany m_place m_seed m_kind m_figure m_imageKind m_imageFigure m_wasKind m_wasFigure m_letters m_row m_refused m_numbers m_counted m_few)) hf (fun j15 hf => ?_) (fun hj hf => ?_)
        · refine s_ladd C 72 rfl dX6_waysFor_71 ?_
          refine s_lstore (lv1 := [(5, .long (v11.1 + j15)), (0, .ref (ad 0)), (1, .int a1), (2, .int a2), (3, .int a3), (4, .int a4), (7, .int v11.2)]) C 74 5 rfl dX6_waysFor_72 (Nat.le_of_ble_eq_true rfl) rfl ?_
          refine s_iinc (lv1 := [(7, .int (v11.2 + (1 : Int32))), (5, .long (v11.1 + j15)), (0, .ref (ad 0)), (1, .int a1), (2, .int a2), (3, .int a3), (4, .int a4)]) C 77 7 6 rfl dX6_waysFor_74 rfl ic_1 (Nat.le_of_ble_eq_true rfl) rfl ?_
          refine s_goto C 31 dX6_waysFor_77 rfl ?_
          exact s_lv [2, 3, 4, 5, 6, 1, 0] rfl (ih12 ((v11.1 + j15, v11.2 + (1 : Int32)) : Int64 × Int32) hf)
        · refine s_if_eq C 70 49 rfl dX6_waysFor_46 rfl (fun hc18 => ?_) (fun hc18 => ?_)
          · replace hf := bn_t hc18 hf
            refine s_lconst C 71 rfl dX6_waysFor_70 lc_0 ?_
            replace hf := bn_i hf
            exact s_lv [0, 1, 2, 3, 4, 6] rfl (hj ((0 : Int64) : Int64) hf)
          · replace hf := bn_f hc18 hf
            refine s_aload_n C 50 0 rfl dX6_waysFor_49 rfl ?_
            refine s_iload_n C 51 1 rfl dX6_waysFor_50 rfl ?_
            refine s_iconst C 52 rfl dX6_waysFor_51 ic_1 ?_
            refine s_iload C 54 6 rfl dX6_waysFor_52 rfl ?_
            refine s_ishl C 55 rfl dX6_waysFor_54 ?_
            refine s_iconst C 56 rfl dX6_waysFor_55 ic_m1 ?_
            refine s_ixor C 57 rfl dX6_waysFor_56 ?_
            refine s_iand C 58 rfl dX6_waysFor_57 ?_
            refine s_iload_n C 59 2 rfl dX6_waysFor_58 rfl ?_
            refine s_iload_n C 60 3 rfl dX6_waysFor_59 rfl ?_
            refine s_iload C 62 4 rfl dX6_waysFor_60 rfl ?_
            refine s_iconst C 63 rfl dX6_waysFor_62 ic_1 ?_
            refine s_isub C 64 rfl dX6_waysFor_63 ?_
            obtain ⟨r16, q17, hf⟩ := bn_b hf
            refine s_callW (T := TX6) (N := 26) (ci := 5) (q0 := 0) (rest := [.long v11.1]) C 67 (c_X6_waysFor_0 l D cI adK adV ad m_left m_bites m_many m_imageLeft m_imageBites m_imageMany m_wasLeft m_wasBites m_wasMany m_hasImage m_letterMany m_rowMany m_place m_seed m_kind m_figure m_imageKind m_imageFigure m_wasKind m_wasFigure m_letters m_row m_refused m_numbers m_counted m_few (a1 &&& ((jshl (1 : Int32) v11.2) ^^^ (-1 : Int32))) a2 a3 (a4 - (1 : Int32)) r16 q17) (gV uu1457 uu1459 uu1595 uu6 uu1460) hd_X6_waysFor rfl ⟨rfl, rfl⟩ ⟨Nat.le_of_ble_eq_true rfl, Nat.le_of_ble_eq_true rfl⟩ ⟨Nat.le_of_ble_eq_true rfl, Nat.le_of_ble_eq_true rfl⟩ rfl rfl rfl (Nat.le_of_ble_eq_true rfl) rfl dX6_waysFor_64 (fun _ => ?_)
            refine s_goto C 71 dX6_waysFor_67 rfl ?_
            replace hf := bn_i hf
            exact s_lv [0, 1, 2, 3, 4, 6] rfl (hj (r16 : Int64) hf)
    · replace hf := ite_t hc23 hf
      refine s_aload_n C 10 0 rfl dX6_waysFor_9 rfl ?_
      refine s_iload_n C 11 1 rfl dX6_waysFor_10 rfl ?_
      refine s_iload_n C 12 2 rfl dX6_waysFor_11 rfl ?_
      obtain ⟨r20, q21, hf⟩ := bn_s hf
      refine s_callW (T := TX6) (N := 26) (ci := 5) (q0 := 0) (rest := []) C 15 (c_X6_shareOf l D cI adK adV ad m_left m_bites m_many m_imageLeft m_imageBites m_imageMany m_wasLeft m_wasBites m_wasMany m_hasImage m_letterMany m_rowMany m_place m_seed m_kind m_figure m_imageKind m_imageFigure m_wasKind m_wasFigure m_letters m_row m_refused m_numbers m_counted m_few a1 a2 r20 q21) (gV uu1198 uu1200 uu1582 uu6 uu1201) hd_X6_shareOf rfl ⟨rfl, rfl⟩ ⟨Nat.le_of_ble_eq_true rfl, Nat.le_of_ble_eq_true rfl⟩ ⟨Nat.le_of_ble_eq_true rfl, Nat.le_of_ble_eq_true rfl⟩ rfl rfl rfl (Nat.le_of_ble_eq_true rfl) rfl dX6_waysFor_12 (fun _ => ?_)
      refine s_iload_n C 16 3 rfl dX6_waysFor_15 rfl ?_
      refine s_icmp_lt C 23 19 rfl dX6_waysFor_16 rfl (fun hc22 => ?_) (fun hc22 => ?_)
      · replace hf := ite_t hc22 hf
        refine s_lconst C 24 rfl dX6_waysFor_23 lc_0 ?_
        obtain rfl := Option.some.inj hf
        exact s_lret C (fun i => i) hr hlk rfl rfl dX6_waysFor_24
      · replace hf := ite_f hc22 hf
        refine s_lconst C 20 rfl dX6_waysFor_19 lc_1 ?_
        refine s_goto C 24 dX6_waysFor_20 rfl ?_
        obtain rfl := Option.some.inj hf
        exact s_lret C (fun i => i) hr hlk rfl rfl dX6_waysFor_24



set_option maxHeartbeats 4000000 in
set_option maxRecDepth 100000 in
theorem c_X6_waysFor_2 (l : Launch) (D : va_G) (cI : ClassId) (adK adV : Nat → Nat) (ad : Nat → Nat) (m_left : Int32) (m_bites : Int32) (m_many : Int32) (m_imageLeft : Int32) (m_imageBites : Int32) (m_imageMany : Int32) (m_wasLeft : Int32) (m_wasBites : Int32) (m_wasMany : Int32) (m_hasImage : Int32) (m_letterMany : Int32) (m_rowMany : Int32) (m_place : Int32) (m_seed : Int32) (m_kind : (Nat → Int32)) (m_figure : (Nat → Int32)) (m_imageKind : (Nat → Int32)) (m_imageFigure : (Nat → Int32)) (m_wasKind : (Nat → Int32)) (m_wasFigure : (Nat → Int32)) (m_letters : (Nat → Int32)) (m_row : (Nat → Int32)) (m_refused : (Nat → Int32)) (m_numbers : (Nat → Int32)) (m_counted : (Nat → Int32)) (m_few : (Nat → Int32)) (a1 : Int32) (a2 : Int32) (a3 : Int32) (a4 : Int32) (o : Int64) (hf : f_X6_waysFor_2 m_kind m_figure a1 a2 a3 a4 = some o) : Ct l D cI adK adV yX6_waysFor (wy yX6_waysFor cX6_waysFor 8 (some .long)) { frames := 7, cells := 0, slots := 0, locals := 171 } 0 0 [.ref (ad 0), .int a1, .int a2, .int a3, .int a4] (wM ad cI m_left m_bites m_many m_imageLeft m_imageBites m_imageMany m_wasLeft m_wasBites m_wasMany m_hasImage m_letterMany m_rowMany m_place m_seed m_kind m_figure m_imageKind m_imageFigure m_wasKind m_wasFigure m_letters m_row m_refused m_numbers m_counted m_few) (fun _ => (wM ad cI m_left m_bites m_many m_imageLeft m_imageBites m_imageMany m_wasLeft m_wasBites m_wasMany m_hasImage m_letterMany m_rowMany m_place m_seed m_kind m_figure m_imageKind m_imageFigure m_wasKind m_wasFigure m_letters m_row m_refused m_numbers m_counted m_few)) (some (.long o)) := by
  refine Ct.of (cc := cX6_waysFor) (nL := 8) (ret := (some .long)) (own := RX6) (by decide) (Nat.le_of_ble_eq_true rfl) rfl ?_
  intro p e s m args below meth c A C hr hlk hnm
  refine s_lv (lv1 := [(0, .ref (ad 0)), (1, .int a1), (2, .int a2), (3, .int a3), (4, .int a4)]) [0, 1, 2, 3, 4] rfl ?_
  unfold f_X6_waysFor_2 at hf
  refine s_iload C 2 4 rfl dX6_waysFor_0 rfl ?_
  refine s_if_eq C 9 5 rfl dX6_waysFor_2 rfl (fun hc24 => ?_) (fun hc24 => ?_)
  · replace hf := ite_t hc24 hf
    refine s_aload_n C 10 0 rfl dX6_waysFor_9 rfl ?_
    refine s_iload_n C 11 1 rfl dX6_waysFor_10 rfl ?_
    refine s_iload_n C 12 2 rfl dX6_waysFor_11 rfl ?_
    obtain ⟨r1, q2, hf⟩ := bn_s hf
    refine s_callW (T := TX6) (N := 26) (ci := 5) (q0 := 0) (rest := []) C 15 (c_X6_shareOf l D cI adK adV ad m_left m_bites m_many m_imageLeft m_imageBites m_imageMany m_wasLeft m_wasBites m_wasMany m_hasImage m_letterMany m_rowMany m_place m_seed m_kind m_figure m_imageKind m_imageFigure m_wasKind m_wasFigure m_letters m_row m_refused m_numbers m_counted m_few a1 a2 r1 q2) (gV uu1198 uu1200 uu1582 uu6 uu1201) hd_X6_shareOf rfl ⟨rfl, rfl⟩ ⟨Nat.le_of_ble_eq_true rfl, Nat.le_of_ble_eq_true rfl⟩ ⟨Nat.le_of_ble_eq_true rfl, Nat.le_of_ble_eq_true rfl⟩ rfl rfl rfl (Nat.le_of_ble_eq_true rfl) rfl dX6_waysFor_12 (fun _ => ?_)
    refine s_iload_n C 16 3 rfl dX6_waysFor_15 rfl ?_
    refine s_icmp_lt C 23 19 rfl dX6_waysFor_16 rfl (fun hc3 => ?_) (fun hc3 => ?_)
    · replace hf := ite_t hc3 hf
      refine s_lconst C 24 rfl dX6_waysFor_23 lc_0 ?_
      obtain rfl := Option.some.inj hf
      exact s_lret C (fun i => i) hr hlk rfl rfl dX6_waysFor_24
    · replace hf := ite_f hc3 hf
      refine s_lconst C 20 rfl dX6_waysFor_19 lc_1 ?_
      refine s_goto C 24 dX6_waysFor_20 rfl ?_
      obtain rfl := Option.some.inj hf
      exact s_lret C (fun i => i) hr hlk rfl rfl dX6_waysFor_24
  · replace hf := ite_f hc24 hf
    refine s_iload_n C 6 1 rfl dX6_waysFor_5 rfl ?_
    refine s_if_ne C 25 9 rfl dX6_waysFor_6 rfl (fun hc23 => ?_) (fun hc23 => ?_)
    · replace hf := ite_f hc23 hf
      refine s_lconst C 26 rfl dX6_waysFor_25 lc_0 ?_
      refine s_lstore (lv1 := [(5, .long (0 : Int64)), (0, .ref (ad 0)), (1, .int a1), (2, .int a2), (3, .int a3), (4, .int a4)]) C 28 5 rfl dX6_waysFor_26 (Nat.le_of_ble_eq_true rfl) rfl ?_
      refine s_iconst C 29 rfl dX6_waysFor_28 ic_0 ?_
      refine s_istore (lv1 := [(7, .int (0 : Int32)), (5, .long (0 : Int64)), (0, .ref (ad 0)), (1, .int a1), (2, .int a2), (3, .int a3), (4, .int a4)]) C 31 7 rfl dX6_waysFor_29 (Nat.le_of_ble_eq_true rfl) rfl ?_
      refine s_lv (lv1 := [(0, .ref (ad 0)), (1, .int a1), (2, .int a2), (3, .int a3), (4, .int a4), (5, .long (0 : Int64)), (7, .int (0 : Int32))]) [2, 3, 4, 5, 6, 1, 0] rfl ?_
      refine s_loop (α := Int64 × Int32) (fun n v11 => f_X6_waysFor_2_31 a1 a2 a3 a4 m_kind m_figure n v11.1 v11.2) 31 (fun v11 => [(0, .ref (ad 0)), (1, .int a1), (2, .int a2), (3, .int a3), (4, .int a4), (5, .long v11.1), (7, .int v11.2)]) (fun v11 => (wM ad cI m_left m_bites m_many m_imageLeft m_imageBites m_imageMany m_wasLeft m_wasBites m_wasMany m_hasImage m_letterMany m_rowMany m_place m_seed m_kind m_figure m_imageKind m_imageFigure m_wasKind m_wasFigure m_letters m_row m_refused m_numbers m_counted m_few)) 1000 ((0 : Int64), (0 : Int32)) hf (fun v11 hf => by simp only [f_X6_waysFor_2_31] at hf; exact absurd hf (by simp)) (fun n ih12 v11 hf => ?_)
      replace hf := (f_X6_waysFor_2_31_s _ _ _ _ _ _ _ _ _).symm.trans hf
      refine s_iload C 33 6 rfl dX6_waysFor_31 rfl ?_
      refine s_bipush C 35 rfl dX6_waysFor_33 bp_25 ?_
      refine s_icmp_ge C 80 38 rfl dX6_waysFor_35 rfl (fun hc19 => ?_) (fun hc19 => ?_)
      · replace hf := ite_t hc19 hf
        refine s_lload C 82 5 rfl dX6_waysFor_80 rfl ?_
        obtain rfl := Option.some.inj hf
        exact s_lret C (fun i => i) hr hlk rfl rfl dX6_waysFor_82
      · replace hf := ite_f hc19 hf
        refine s_lload C 40 5 rfl dX6_waysFor_38 rfl ?_
        refine s_iload_n C 41 1 rfl dX6_waysFor_40 rfl ?_
        refine s_iload C 43 6 rfl dX6_waysFor_41 rfl ?_
        obtain ⟨r13, q14, hf⟩ := bn_s hf
        refine s_callS0 (host := "") (rest := [.long v11.1]) C 46 (c_X6_has l D cI adK adV a1 v11.2 r13 q14) (gS uu1218 uu1220 uu6 uu1221) hd_X6_has rfl ⟨rfl, rfl⟩ ⟨Nat.le_of_ble_eq_true rfl, Nat.le_of_ble_eq_true rfl⟩ ⟨Nat.le_of_ble_eq_true rfl, Nat.le_of_ble_eq_true rfl⟩ rfl (Nat.le_of_ble_eq_true rfl) rfl dX6_waysFor_43 ?_
        refine s_bn (α := Int64) 71 (fun j15 => [(0, .ref (ad 0)), (1, .int a1), (2, .int a2), (3, .int a3), (4, .int a4), (7, .int v11.2)]) (fun j15 => [.long j15, .long v11.1]) (fun j15 => (wM ad cI m_left m_bites m_many m_imageLeft m_imageBites m_imageMany m_wasLeft m_wasBites m_wasMany m_hasImage m_letterMany m_rowMany m_place m_seed m_kind m_figure m_imageKind m_imageFigure m_wasKind m_wasFigure m_letters m_row m_refused m_numbers m_counted m_few)) hf (fun j15 hf => ?_) (fun hj hf => ?_)
        · refine s_ladd C 72 rfl dX6_waysFor_71 ?_
          refine s_lstore (lv1 := [(5, .long (v11.1 + j15)), (0, .ref (ad 0)), (1, .int a1), (2, .int a2), (3, .int a3), (4, .int a4), (7, .int v11.2)]) C 74 5 rfl dX6_waysFor_72 (Nat.le_of_ble_eq_true rfl) rfl ?_
          refine s_iinc (lv1 := [(7, .int (v11.2 + (1 : Int32))), (5, .long (v11.1 + j15)), (0, .ref (ad 0)), (1, .int a1), (2, .int a2), (3, .int a3), (4, .int a4)]) C 77 7 6 rfl dX6_waysFor_74 rfl ic_1 (Nat.le_of_ble_eq_true rfl) rfl ?_
          refine s_goto C 31 dX6_waysFor_77 rfl ?_
          exact s_lv [2, 3, 4, 5, 6, 1, 0] rfl (ih12 ((v11.1 + j15, v11.2 + (1 : Int32)) : Int64 × Int32) hf)
        · refine s_if_eq C 70 49 rfl dX6_waysFor_46 rfl (fun hc18 => ?_) (fun hc18 => ?_)
          · replace hf := bn_t hc18 hf
            refine s_lconst C 71 rfl dX6_waysFor_70 lc_0 ?_
            replace hf := bn_i hf
            exact s_lv [0, 1, 2, 3, 4, 6] rfl (hj ((0 : Int64) : Int64) hf)
          · replace hf := bn_f hc18 hf
            refine s_aload_n C 50 0 rfl dX6_waysFor_49 rfl ?_
            refine s_iload_n C 51 1 rfl dX6_waysFor_50 rfl ?_
            refine s_iconst C 52 rfl dX6_waysFor_51 ic_1 ?_
            refine s_iload C 54 6 rfl dX6_waysFor_52 rfl ?_
            refine s_ishl C 55 rfl dX6_waysFor_54 ?_
            refine s_iconst C 56 rfl dX6_waysFor_55 ic_m1 ?_
            refine s_ixor C 57 rfl dX6_waysFor_56 ?_
            refine s_iand C 58 rfl dX6_waysFor_57 ?_
            refine s_iload_n C 59 2 rfl dX6_waysFor_58 rfl ?_
            refine s_iload_n C 60 3 rfl dX6_waysFor_59 rfl ?_
            refine s_iload C 62 4 rfl dX6_waysFor_60 rfl ?_
            refine s_iconst C 63 rfl dX6_waysFor_62 ic_1 ?_
            refine s_isub C 64 rfl dX6_waysFor_63 ?_
            obtain ⟨r16, q17, hf⟩ := bn_b hf
            refine s_callW (T := TX6) (N := 26) (ci := 5) (q0 := 0) (rest := [.long v11.1]) C 67 (c_X6_waysFor_1 l D cI adK adV ad m_left m_bites m_many m_imageLeft m_imageBites m_imageMany m_wasLeft m_wasBites m_wasMany m_hasImage m_letterMany m_rowMany m_place m_seed m_kind m_figure m_imageKind m_imageFigure m_wasKind m_wasFigure m_letters m_row m_refused m_numbers m_counted m_few (a1 &&& ((jshl (1 : Int32) v11.2) ^^^ (-1 : Int32))) a2 a3 (a4 - (1 : Int32)) r16 q17) (gV uu1457 uu1459 uu1595 uu6 uu1460) hd_X6_waysFor rfl ⟨rfl, rfl⟩ ⟨Nat.le_of_ble_eq_true rfl, Nat.le_of_ble_eq_true rfl⟩ ⟨Nat.le_of_ble_eq_true rfl, Nat.le_of_ble_eq_true rfl⟩ rfl rfl rfl (Nat.le_of_ble_eq_true rfl) rfl dX6_waysFor_64 (fun _ => ?_)
            refine s_goto C 71 dX6_waysFor_67 rfl ?_
            replace hf := bn_i hf
            exact s_lv [0, 1, 2, 3, 4, 6] rfl (hj (r16 : Int64) hf)
    · replace hf := ite_t hc23 hf
      refine s_aload_n C 10 0 rfl dX6_waysFor_9 rfl ?_
      refine s_iload_n C 11 1 rfl dX6_waysFor_10 rfl ?_
      refine s_iload_n C 12 2 rfl dX6_waysFor_11 rfl ?_
      obtain ⟨r20, q21, hf⟩ := bn_s hf
      refine s_callW (T := TX6) (N := 26) (ci := 5) (q0 := 0) (rest := []) C 15 (c_X6_shareOf l D cI adK adV ad m_left m_bites m_many m_imageLeft m_imageBites m_imageMany m_wasLeft m_wasBites m_wasMany m_hasImage m_letterMany m_rowMany m_place m_seed m_kind m_figure m_imageKind m_imageFigure m_wasKind m_wasFigure m_letters m_row m_refused m_numbers m_counted m_few a1 a2 r20 q21) (gV uu1198 uu1200 uu1582 uu6 uu1201) hd_X6_shareOf rfl ⟨rfl, rfl⟩ ⟨Nat.le_of_ble_eq_true rfl, Nat.le_of_ble_eq_true rfl⟩ ⟨Nat.le_of_ble_eq_true rfl, Nat.le_of_ble_eq_true rfl⟩ rfl rfl rfl (Nat.le_of_ble_eq_true rfl) rfl dX6_waysFor_12 (fun _ => ?_)
      refine s_iload_n C 16 3 rfl dX6_waysFor_15 rfl ?_
      refine s_icmp_lt C 23 19 rfl dX6_waysFor_16 rfl (fun hc22 => ?_) (fun hc22 => ?_)
      · replace hf := ite_t hc22 hf
        refine s_lconst C 24 rfl dX6_waysFor_23 lc_0 ?_
        obtain rfl := Option.some.inj hf
        exact s_lret C (fun i => i) hr hlk rfl rfl dX6_waysFor_24
      · replace hf := ite_f hc22 hf
        refine s_lconst C 20 rfl dX6_waysFor_19 lc_1 ?_
        refine s_goto C 24 dX6_waysFor_20 rfl ?_
        obtain rfl := Option.some.inj hf
        exact s_lret C (fun i => i) hr hlk rfl rfl dX6_waysFor_24


theorem hd_X6_drawn : yX6_drawn.cls = RX6 ∧ yX6_drawn.cls ≠ "java/lang/invoke/MethodHandle" ∧ yX6_drawn.cls ≠ "java/lang/invoke/VarHandle" ∧ (parseMethodDescriptor yX6_drawn.desc).map (fun d => d.parameters.length) = some 1 := by decide +kernel
set_option maxHeartbeats 4000000 in
set_option maxRecDepth 100000 in
theorem c_X6_drawn (l : Launch) (D : va_G) (cI : ClassId) (adK adV : Nat → Nat) (ad : Nat → Nat) (m_left : Int32) (m_bites : Int32) (m_many : Int32) (m_imageLeft : Int32) (m_imageBites : Int32) (m_imageMany : Int32) (m_wasLeft : Int32) (m_wasBites : Int32) (m_wasMany : Int32) (m_hasImage : Int32) (m_letterMany : Int32) (m_rowMany : Int32) (m_place : Int32) (m_seed : Int32) (m_kind : (Nat → Int32)) (m_figure : (Nat → Int32)) (m_imageKind : (Nat → Int32)) (m_imageFigure : (Nat → Int32)) (m_wasKind : (Nat → Int32)) (m_wasFigure : (Nat → Int32)) (m_letters : (Nat → Int32)) (m_row : (Nat → Int32)) (m_refused : (Nat → Int32)) (m_numbers : (Nat → Int32)) (m_counted : (Nat → Int32)) (m_few : (Nat → Int32)) (a1 : Int32) (o : Int32 × Int32) (hf : f_X6_drawn m_seed a1 = some o) : Ct l D cI adK adV yX6_drawn (wy yX6_drawn cX6_drawn 2 (some .int)) { frames := 0, cells := 0, slots := 0, locals := 0 } 0 0 [.ref (ad 0), .int a1] (wM ad cI m_left m_bites m_many m_imageLeft m_imageBites m_imageMany m_wasLeft m_wasBites m_wasMany m_hasImage m_letterMany m_rowMany m_place m_seed m_kind m_figure m_imageKind m_imageFigure m_wasKind m_wasFigure m_letters m_row m_refused m_numbers m_counted m_few) (fun _ => (wM ad cI m_left m_bites m_many m_imageLeft m_imageBites m_imageMany m_wasLeft m_wasBites m_wasMany m_hasImage m_letterMany m_rowMany m_place o.2 m_kind m_figure m_imageKind m_imageFigure m_wasKind m_wasFigure m_letters m_row m_refused m_numbers m_counted m_few)) (some (.int o.1)) := by
  refine Ct.of (cc := cX6_drawn) (nL := 2) (ret := (some .int)) (own := RX6) (by decide) (Nat.le_of_ble_eq_true rfl) rfl ?_
  intro p e s m args below meth c A C hr hlk hnm
  refine s_lv (lv1 := [(0, .ref (ad 0)), (1, .int a1)]) [0, 1] rfl ?_
  unfold f_X6_drawn at hf
  refine s_aload_n C 1 0 rfl dX6_drawn_0 rfl ?_
  refine s_aload_n C 2 0 rfl dX6_drawn_1 rfl ?_
  refine s_get (C1 := RX6) (T := TX6) (N := 26) (ci := 5) C 5 0 25 uX6 rfl rfl (Nat.le_of_ble_eq_true rfl) uu1036 rfl rfl rfl dX6_drawn_2 ?_
  refine s_ldc C 7 rfl dX6_drawn_5 uu1513 ?_
  refine s_imul C 8 rfl dX6_drawn_7 ?_
  refine s_ldc C 10 rfl dX6_drawn_8 uu1515 ?_
  refine s_iadd C 11 rfl dX6_drawn_10 ?_
  refine s_put (C1 := RX6) (T := TX6) (N := 26) (ci := 5) (ty := tyX6 25) (ws1 := (wM ad cI m_left m_bites m_many m_imageLeft m_imageBites m_imageMany m_wasLeft m_wasBites m_wasMany m_hasImage m_letterMany m_rowMany m_place ((m_seed * (1664525 : Int32)) + (1013904223 : Int32)) m_kind m_figure m_imageKind m_imageFigure m_wasKind m_wasFigure m_letters m_row m_refused m_numbers m_counted m_few)) C 14 0 25 uX6 tyX6 tyX6_ok nmX6 rfl rfl (Nat.le_of_ble_eq_true rfl) uu1036 rfl rfl (tyX6_ok 25 (Nat.le_of_ble_eq_true rfl)) ⟨rfl, rfl⟩ (Nat.le_of_ble_eq_true rfl) rfl rfl dX6_drawn_11 ?_
  refine s_aload_n C 15 0 rfl dX6_drawn_14 rfl ?_
  refine s_get (C1 := RX6) (T := TX6) (N := 26) (ci := 5) C 18 0 25 uX6 rfl rfl (Nat.le_of_ble_eq_true rfl) uu1036 rfl rfl rfl dX6_drawn_15 ?_
  refine s_ldc C 20 rfl dX6_drawn_18 uu1517 ?_
  refine s_iand C 21 rfl dX6_drawn_20 ?_
  refine s_sipush C 24 rfl dX6_drawn_21 sp_256 ?_
  refine s_idiv C 25 rfl dX6_drawn_24 (by decide) ?_
  refine s_iload_n C 26 1 rfl dX6_drawn_25 rfl ?_
  obtain ⟨h1, hf⟩ := ck_nz hf
  refine s_irem C 27 rfl dX6_drawn_26 h1 ?_
  obtain rfl := Option.some.inj hf
  exact s_iret C (fun i => i) hr hlk rfl rfl dX6_drawn_27

