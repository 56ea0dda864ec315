
theorem hd_J0_coder_7d493 : yJ0_coder_7d493.cls = RJ0 ∧ yJ0_coder_7d493.cls ≠ "java/lang/invoke/MethodHandle" ∧ yJ0_coder_7d493.cls ≠ "java/lang/invoke/VarHandle" ∧ (parseMethodDescriptor yJ0_coder_7d493.desc).map (fun d => d.parameters.length) = some 0 := by decide +kernel
set_option maxHeartbeats 4000000 in
set_option maxRecDepth 100000 in
theorem c_J0_coder_7d493 (l : Launch) (D : va_G) (cI : ClassId) (adK adV : Nat → Nat)   (a0 : Nat) (o : Int32) (hf : f_J0_coder_7d493 a0 = some o) : Ct l D cI adK adV yJ0_coder_7d493 (wy yJ0_coder_7d493 cJ0_coder_7d493 1 (some .byte)) { frames := 0, cells := 0, slots := 0, locals := 0 } 0 0 [.ref (adK a0)] [] (fun _ => []) (some (.int o)) := by
  refine Ct.of (cc := cJ0_coder_7d493) (nL := 1) (ret := (some .byte)) (own := RJ0) (by decide) (Nat.le_of_ble_eq_true rfl) rfl ?_
  intro p e s m args below meth c A C hr hlk hnm
  refine s_lv (lv1 := [(0, .ref (adK a0))]) [0] rfl ?_
  unfold f_J0_coder_7d493 at hf
  obtain ⟨hsa0, hf⟩ := ck_ltJ hf
  refine s_getsC C 3 uu225 rfl rfl dJ0_coder_7d493_0 ?_
  refine s_if_eq C 13 6 rfl dJ0_coder_7d493_3 rfl (fun hc3 => ?_) (fun hc3 => ?_)
  · replace hf := ite_t hc3 hf
    refine s_iconst C 14 rfl dJ0_coder_7d493_13 ic_1 ?_
    obtain ⟨h1, hf⟩ := ck_isby hf
    obtain rfl := Option.some.inj hf
    exact s_bret C (fun i => i) hr hlk h1 rfl rfl dJ0_coder_7d493_14
  · replace hf := ite_f hc3 hf
    refine s_aload_n C 7 0 rfl dJ0_coder_7d493_6 rfl ?_
    refine s_getSc C 10 hsa0 uu1539 rfl rfl dJ0_coder_7d493_7 ?_
    refine s_goto C 14 dJ0_coder_7d493_10 rfl ?_
    obtain ⟨h2, hf⟩ := ck_isby hf
    obtain rfl := Option.some.inj hf
    exact s_bret C (fun i => i) hr hlk h2 rfl rfl dJ0_coder_7d493_14


theorem hd_J0_isLatin1_aae02 : yJ0_isLatin1_aae02.cls = RJ0 ∧ yJ0_isLatin1_aae02.cls ≠ "java/lang/invoke/MethodHandle" ∧ yJ0_isLatin1_aae02.cls ≠ "java/lang/invoke/VarHandle" ∧ (parseMethodDescriptor yJ0_isLatin1_aae02.desc).map (fun d => d.parameters.length) = some 0 := by decide +kernel
set_option maxHeartbeats 4000000 in
set_option maxRecDepth 100000 in
theorem c_J0_isLatin1_aae02 (l : Launch) (D : va_G) (cI : ClassId) (adK adV : Nat → Nat)   (a0 : Nat) (o : Int32) (hf : f_J0_isLatin1_aae02 a0 = some o) : Ct l D cI adK adV yJ0_isLatin1_aae02 (wy yJ0_isLatin1_aae02 cJ0_isLatin1_aae02 1 (some .boolean)) { frames := 0, cells := 0, slots := 0, locals := 0 } 0 0 [.ref (adK a0)] [] (fun _ => []) (some (.int o)) := by
  refine Ct.of (cc := cJ0_isLatin1_aae02) (nL := 1) (ret := (some .boolean)) (own := RJ0) (by decide) (Nat.le_of_ble_eq_true rfl) rfl ?_
  intro p e s m args below meth c A C hr hlk hnm
  refine s_lv (lv1 := [(0, .ref (adK a0))]) [0] rfl ?_
  unfold f_J0_isLatin1_aae02 at hf
  obtain ⟨hsa0, hf⟩ := ck_ltJ hf
  refine s_getsC C 3 uu225 rfl rfl dJ0_isLatin1_aae02_0 ?_
  refine s_if_eq C 17 6 rfl dJ0_isLatin1_aae02_3 rfl (fun hc2 => ?_) (fun hc2 => ?_)
  · replace hf := ite_t hc2 hf
    refine s_iconst C 18 rfl dJ0_isLatin1_aae02_17 ic_0 ?_
    obtain rfl := Option.some.inj hf
    exact s_zret C (fun i => i) hr hlk (Or.inl rfl) rfl rfl dJ0_isLatin1_aae02_18
  · replace hf := ite_f hc2 hf
    refine s_aload_n C 7 0 rfl dJ0_isLatin1_aae02_6 rfl ?_
    refine s_getSc C 10 hsa0 uu1539 rfl rfl dJ0_isLatin1_aae02_7 ?_
    refine s_if_ne C 17 13 rfl dJ0_isLatin1_aae02_10 rfl (fun hc1 => ?_) (fun hc1 => ?_)
    · replace hf := ite_f hc1 hf
      refine s_iconst C 18 rfl dJ0_isLatin1_aae02_17 ic_0 ?_
      obtain rfl := Option.some.inj hf
      exact s_zret C (fun i => i) hr hlk (Or.inl rfl) rfl rfl dJ0_isLatin1_aae02_18
    · replace hf := ite_t hc1 hf
      refine s_iconst C 14 rfl dJ0_isLatin1_aae02_13 ic_1 ?_
      refine s_goto C 18 dJ0_isLatin1_aae02_14 rfl ?_
      obtain rfl := Option.some.inj hf
      exact s_zret C (fun i => i) hr hlk (Or.inr rfl) rfl rfl dJ0_isLatin1_aae02_18


theorem hd_J1_canEncode_9a6ad : yJ1_canEncode_9a6ad.cls ≠ "java/lang/invoke/MethodHandle" ∧ yJ1_canEncode_9a6ad.cls ≠ "java/lang/invoke/VarHandle" ∧ (parseMethodDescriptor yJ1_canEncode_9a6ad.desc).map (fun d => d.parameters.length) = some 1 := by decide +kernel
set_option maxHeartbeats 4000000 in
set_option maxRecDepth 100000 in
theorem c_J1_canEncode_9a6ad (l : Launch) (D : va_G) (cI : ClassId) (adK adV : Nat → Nat)   (a0 : Int32) (o : Int32) (hf : f_J1_canEncode_9a6ad a0 = some o) : Ct l D cI adK adV yJ1_canEncode_9a6ad (wy yJ1_canEncode_9a6ad cJ1_canEncode_9a6ad 1 (some .boolean)) { frames := 0, cells := 0, slots := 0, locals := 0 } 0 0 [.int a0] [] (fun _ => []) (some (.int o)) := by
  refine Ct.of (cc := cJ1_canEncode_9a6ad) (nL := 1) (ret := (some .boolean)) (own := RJ1) (by decide) (Nat.le_of_ble_eq_true rfl) rfl ?_
  intro p e s m args below meth c A C hr hlk hnm
  refine s_lv (lv1 := [(0, .int a0)]) [0] rfl ?_
  unfold f_J1_canEncode_9a6ad at hf
  refine s_iload_n C 1 0 rfl dJ1_canEncode_9a6ad_0 rfl ?_
  refine s_if_lt C 15 4 rfl dJ1_canEncode_9a6ad_1 rfl (fun hc2 => ?_) (fun hc2 => ?_)
  · replace hf := ite_t hc2 hf
    refine s_iconst C 16 rfl dJ1_canEncode_9a6ad_15 ic_0 ?_
    obtain rfl := Option.some.inj hf
    exact s_zret C (fun i => i) hr hlk (Or.inl rfl) rfl rfl dJ1_canEncode_9a6ad_16
  · replace hf := ite_f hc2 hf
    refine s_iload_n C 5 0 rfl dJ1_canEncode_9a6ad_4 rfl ?_
    refine s_sipush C 8 rfl dJ1_canEncode_9a6ad_5 sp_255 ?_
    refine s_icmp_gt C 15 11 rfl dJ1_canEncode_9a6ad_8 rfl (fun hc1 => ?_) (fun hc1 => ?_)
    · replace hf := ite_t hc1 hf
      refine s_iconst C 16 rfl dJ1_canEncode_9a6ad_15 ic_0 ?_
      obtain rfl := Option.some.inj hf
      exact s_zret C (fun i => i) hr hlk (Or.inl rfl) rfl rfl dJ1_canEncode_9a6ad_16
    · replace hf := ite_f hc1 hf
      refine s_iconst C 12 rfl dJ1_canEncode_9a6ad_11 ic_1 ?_
      refine s_goto C 16 dJ1_canEncode_9a6ad_12 rfl ?_
      obtain rfl := Option.some.inj hf
      exact s_zret C (fun i => i) hr hlk (Or.inr rfl) rfl rfl dJ1_canEncode_9a6ad_16


theorem hd_J1_indexOfChar_4cfef : yJ1_indexOfChar_4cfef.cls ≠ "java/lang/invoke/MethodHandle" ∧ yJ1_indexOfChar_4cfef.cls ≠ "java/lang/invoke/VarHandle" ∧ (parseMethodDescriptor yJ1_indexOfChar_4cfef.desc).map (fun d => d.parameters.length) = some 4 := by decide +kernel
set_option maxHeartbeats 4000000 in
set_option maxRecDepth 100000 in
theorem c_J1_indexOfChar_4cfef (l : Launch) (D : va_G) (cI : ClassId) (adK adV : Nat → Nat)   (a0 : Nat) (a1 : Int32) (a2 : Int32) (a3 : Int32) (o : Int32) (hf : f_J1_indexOfChar_4cfef a0 a1 a2 a3 = some o) : Ct l D cI adK adV yJ1_indexOfChar_4cfef (wy yJ1_indexOfChar_4cfef cJ1_indexOfChar_4cfef 6 (some .int)) { frames := 0, cells := 0, slots := 0, locals := 0 } 0 0 [.ref (adV a0), .int a1, .int a2, .int a3] [] (fun _ => []) (some (.int o)) := by
  refine Ct.of (cc := cJ1_indexOfChar_4cfef) (nL := 6) (ret := (some .int)) (own := RJ1) (by decide) (Nat.le_of_ble_eq_true rfl) rfl ?_
  intro p e s m args below meth c A C hr hlk hnm
  refine s_lv (lv1 := [(0, .ref (adV a0)), (1, .int a1), (2, .int a2), (3, .int a3)]) [0, 1, 2, 3] rfl ?_
  unfold f_J1_indexOfChar_4cfef at hf
  obtain ⟨hsa0, hf⟩ := ck_ltJ hf
  refine s_iload_n C 1 1 rfl dJ1_indexOfChar_4cfef_0 rfl ?_
  refine s_i2b C 2 rfl dJ1_indexOfChar_4cfef_1 ?_
  refine s_istore (lv1 := [(4, .int a1.toInt8.toInt32), (0, .ref (adV a0)), (1, .int a1), (2, .int a2), (3, .int a3)]) C 4 4 rfl dJ1_indexOfChar_4cfef_2 (Nat.le_of_ble_eq_true rfl) rfl ?_
  refine s_iload_n C 5 3 rfl dJ1_indexOfChar_4cfef_4 rfl ?_
  refine s_istore (lv1 := [(5, .int a2), (4, .int a1.toInt8.toInt32), (0, .ref (adV a0)), (1, .int a1), (2, .int a2), (3, .int a3)]) C 7 5 rfl dJ1_indexOfChar_4cfef_5 (Nat.le_of_ble_eq_true rfl) rfl ?_
  refine s_lv (lv1 := [(0, .ref (adV a0)), (3, .int a3), (4, .int a1.toInt8.toInt32), (5, .int a2)]) [2, 5, 1, 0] rfl ?_
  refine s_loop (α := Int32) (fun n v4 => f_J1_indexOfChar_4cfef_7 a0 a3 a1.toInt8.toInt32 n v4) 7 (fun v4 => [(0, .ref (adV a0)), (3, .int a3), (4, .int a1.toInt8.toInt32), (5, .int v4)]) (fun v4 => []) 1000 a2 hf (fun v4 hf => by simp only [f_J1_indexOfChar_4cfef_7] at hf; exact absurd hf (by simp)) (fun n ih5 v4 hf => ?_)
  replace hf := (f_J1_indexOfChar_4cfef_7_s _ _ _ _ _).symm.trans hf
  refine s_iload C 9 3 rfl dJ1_indexOfChar_4cfef_7 rfl ?_
  refine s_iload_n C 10 1 rfl dJ1_indexOfChar_4cfef_9 rfl ?_
  refine s_icmp_ge C 31 13 rfl dJ1_indexOfChar_4cfef_10 rfl (fun hc8 => ?_) (fun hc8 => ?_)
  · replace hf := ite_t hc8 hf
    refine s_iconst C 32 rfl dJ1_indexOfChar_4cfef_31 ic_m1 ?_
    obtain rfl := Option.some.inj hf
    exact s_iret C (fun i => i) hr hlk rfl rfl dJ1_indexOfChar_4cfef_32
  · replace hf := ite_f hc8 hf
    refine s_aload_n C 14 0 rfl dJ1_indexOfChar_4cfef_13 rfl ?_
    refine s_iload C 16 3 rfl dJ1_indexOfChar_4cfef_14 rfl ?_
    obtain ⟨h6, hf⟩ := ck_in hf
    refine s_baldS C 17 hsa0 h6 rfl dJ1_indexOfChar_4cfef_16 ?_
    refine s_iload C 19 2 rfl dJ1_indexOfChar_4cfef_17 rfl ?_
    refine s_icmp_ne C 25 22 rfl dJ1_indexOfChar_4cfef_19 rfl (fun hc7 => ?_) (fun hc7 => ?_)
    · replace hf := ite_f hc7 hf
      refine s_iinc (lv1 := [(5, .int (v4 + (1 : Int32))), (0, .ref (adV a0)), (3, .int a3), (4, .int a1.toInt8.toInt32)]) C 28 5 3 rfl dJ1_indexOfChar_4cfef_25 rfl ic_1 (Nat.le_of_ble_eq_true rfl) rfl ?_
      refine s_goto C 7 dJ1_indexOfChar_4cfef_28 rfl ?_
      exact s_lv [1, 2, 3, 0] rfl (ih5 (v4 + (1 : Int32) : Int32) hf)
    · replace hf := ite_t hc7 hf
      refine s_iload C 24 3 rfl dJ1_indexOfChar_4cfef_22 rfl ?_
      obtain rfl := Option.some.inj hf
      exact s_iret C (fun i => i) hr hlk rfl rfl dJ1_indexOfChar_4cfef_24


theorem hd_J3_checkIndex_8e157 : yJ3_checkIndex_8e157.cls ≠ "java/lang/invoke/MethodHandle" ∧ yJ3_checkIndex_8e157.cls ≠ "java/lang/invoke/VarHandle" ∧ (parseMethodDescriptor yJ3_checkIndex_8e157.desc).map (fun d => d.parameters.length) = some 3 := by decide +kernel
set_option maxHeartbeats 4000000 in
set_option maxRecDepth 100000 in
theorem c_J3_checkIndex_8e157 (l : Launch) (D : va_G) (cI : ClassId) (adK adV : Nat → Nat)   (a0 : Int32) (a1 : Int32) (a2 : Option Nat) (o : Int32) (hf : f_J3_checkIndex_8e157 a0 a1 = some o) : Ct l D cI adK adV yJ3_checkIndex_8e157 (wy yJ3_checkIndex_8e157 cJ3_checkIndex_8e157 3 (some .int)) { frames := 0, cells := 0, slots := 0, locals := 0 } 0 0 [.int a0, .int a1, va_rf a2] [] (fun _ => []) (some (.int o)) := by
  refine Ct.of (cc := cJ3_checkIndex_8e157) (nL := 3) (ret := (some .int)) (own := RJ3) (by decide) (by cases a2 <;> exact Nat.le_of_ble_eq_true rfl) rfl ?_
  intro p e s m args below meth c A C hr hlk hnm
  refine s_lv (lv1 := [(0, .int a0), (1, .int a1), (2, va_rf a2)]) [0, 1, 2] rfl ?_
  unfold f_J3_checkIndex_8e157 at hf
  refine s_iload_n C 1 0 rfl dJ3_checkIndex_8e157_0 rfl ?_
  refine s_if_lt C 9 4 rfl dJ3_checkIndex_8e157_1 rfl (fun hc2 => ?_) (fun hc2 => ?_)
  · replace hf := ite_t hc2 hf
    cases hf
  · replace hf := ite_f hc2 hf
    refine s_iload_n C 5 0 rfl dJ3_checkIndex_8e157_4 rfl ?_
    refine s_iload_n C 6 1 rfl dJ3_checkIndex_8e157_5 rfl ?_
    refine s_icmp_lt C 16 9 rfl dJ3_checkIndex_8e157_6 rfl (fun hc1 => ?_) (fun hc1 => ?_)
    · replace hf := ite_t hc1 hf
      refine s_iload_n C 17 0 rfl dJ3_checkIndex_8e157_16 rfl ?_
      obtain rfl := Option.some.inj hf
      exact s_iret C (fun i => i) hr hlk rfl rfl dJ3_checkIndex_8e157_17
    · replace hf := ite_f hc1 hf
      cases hf


theorem hd_J0_length_8abf5 : yJ0_length_8abf5.cls = RJ0 ∧ yJ0_length_8abf5.cls ≠ "java/lang/invoke/MethodHandle" ∧ yJ0_length_8abf5.cls ≠ "java/lang/invoke/VarHandle" ∧ (parseMethodDescriptor yJ0_length_8abf5.desc).map (fun d => d.parameters.length) = some 0 := by decide +kernel
set_option maxHeartbeats 4000000 in
set_option maxRecDepth 100000 in
theorem c_J0_length_8abf5 (l : Launch) (D : va_G) (cI : ClassId) (adK adV : Nat → Nat)   (a0 : Nat) (o : Int32) (hf : f_J0_length_8abf5 a0 = some o) : Ct l D cI adK adV yJ0_length_8abf5 (wy yJ0_length_8abf5 cJ0_length_8abf5 1 (some .int)) { frames := 1, cells := 0, slots := 0, locals := 20 } 0 0 [.ref (adK a0)] [] (fun _ => []) (some (.int o)) := by
  refine Ct.of (cc := cJ0_length_8abf5) (nL := 1) (ret := (some .int)) (own := RJ0) (by decide) (Nat.le_of_ble_eq_true rfl) rfl ?_
  intro p e s m args below meth c A C hr hlk hnm
  refine s_lv (lv1 := [(0, .ref (adK a0))]) [0] rfl ?_
  unfold f_J0_length_8abf5 at hf
  obtain ⟨hsa0, hf⟩ := ck_ltJ hf
  refine s_aload_n C 1 0 rfl dJ0_length_8abf5_0 rfl ?_
  refine s_getSv C 4 hsa0 uu1537 rfl rfl dJ0_length_8abf5_1 ?_
  refine s_alenS C 5 hsa0 rfl dJ0_length_8abf5_4 ?_
  refine s_aload_n C 6 0 rfl dJ0_length_8abf5_5 rfl ?_
  obtain ⟨r1, q2, hf⟩ := bn_s hf
  refine s_callT (rest := [.int (nI (lenJS.getD a0 0))]) C 9 hsa0 (c_J0_coder_7d493 l D cI adK adV a0 r1 q2) (gV uu219 uu221 uu222 uu7 uu223) hd_J0_coder_7d493 rfl ⟨rfl, rfl⟩ ⟨Nat.le_of_ble_eq_true rfl, Nat.le_of_ble_eq_true rfl⟩ ⟨Nat.le_of_ble_eq_true rfl, Nat.le_of_ble_eq_true rfl⟩ rfl (Nat.le_of_ble_eq_true rfl) rfl dJ0_length_8abf5_6 ?_
  refine s_ishr C 10 rfl dJ0_length_8abf5_9 ?_
  obtain rfl := Option.some.inj hf
  exact s_iret C (fun i => i) hr hlk rfl rfl dJ0_length_8abf5_10


theorem hd_J0_checkIndex_df160 : yJ0_checkIndex_df160.cls ≠ "java/lang/invoke/MethodHandle" ∧ yJ0_checkIndex_df160.cls ≠ "java/lang/invoke/VarHandle" ∧ (parseMethodDescriptor yJ0_checkIndex_df160.desc).map (fun d => d.parameters.length) = some 2 := by decide +kernel
set_option maxHeartbeats 4000000 in
set_option maxRecDepth 100000 in
theorem c_J0_checkIndex_df160 (l : Launch) (D : va_G) (cI : ClassId) (adK adV : Nat → Nat)   (a0 : Int32) (a1 : Int32) (o : Unit) (hf : f_J0_checkIndex_df160 a0 a1 = some o) : Ct l D cI adK adV yJ0_checkIndex_df160 (wy yJ0_checkIndex_df160 cJ0_checkIndex_df160 2 none) { frames := 1, cells := 0, slots := 0, locals := 22 } 0 0 [.int a0, .int a1] [] (fun _ => []) (none) := by
  refine Ct.of (cc := cJ0_checkIndex_df160) (nL := 2) (ret := none) (own := RJ0) (by decide) (Nat.le_of_ble_eq_true rfl) rfl ?_
  intro p e s m args below meth c A C hr hlk hnm
  refine s_lv (lv1 := [(0, .int a0), (1, .int a1)]) [0, 1] rfl ?_
  unfold f_J0_checkIndex_df160 at hf
  refine s_iload_n C 1 0 rfl dJ0_checkIndex_df160_0 rfl ?_
  refine s_iload_n C 2 1 rfl dJ0_checkIndex_df160_1 rfl ?_
  refine s_getsF C 5 uu249 rfl rfl dJ0_checkIndex_df160_2 (fun q1 => ?_)
  obtain ⟨r2, q3, hf⟩ := bn_s hf
  refine s_callS0 (host := "") (rest := []) C 8 (c_J3_checkIndex_8e157 l D cI adK adV a0 a1 q1 r2 q3) (gS uu251 uu253 uu9 uu254) hd_J3_checkIndex_8e157 rfl ⟨rfl, rfl⟩ ⟨Nat.le_of_ble_eq_true rfl, Nat.le_of_ble_eq_true rfl⟩ ⟨Nat.le_of_ble_eq_true rfl, Nat.le_of_ble_eq_true rfl⟩ rfl (Nat.le_of_ble_eq_true rfl) rfl dJ0_checkIndex_df160_5 ?_
  refine s_pop C 9 rfl dJ0_checkIndex_df160_8 rfl ?_
  obtain rfl := Option.some.inj hf
  exact s_vret C (fun i => i) hr hlk rfl rfl dJ0_checkIndex_df160_9


theorem hd_J1_charAt_3b067 : yJ1_charAt_3b067.cls ≠ "java/lang/invoke/MethodHandle" ∧ yJ1_charAt_3b067.cls ≠ "java/lang/invoke/VarHandle" ∧ (parseMethodDescriptor yJ1_charAt_3b067.desc).map (fun d => d.parameters.length) = some 2 := by decide +kernel
set_option maxHeartbeats 4000000 in
set_option maxRecDepth 100000 in
theorem c_J1_charAt_3b067 (l : Launch) (D : va_G) (cI : ClassId) (adK adV : Nat → Nat)   (a0 : Nat) (a1 : Int32) (o : Int32) (hf : f_J1_charAt_3b067 a0 a1 = some o) : Ct l D cI adK adV yJ1_charAt_3b067 (wy yJ1_charAt_3b067 cJ1_charAt_3b067 2 (some .char)) { frames := 2, cells := 0, slots := 0, locals := 43 } 0 0 [.ref (adV a0), .int a1] [] (fun _ => []) (some (.int o)) := by
  refine Ct.of (cc := cJ1_charAt_3b067) (nL := 2) (ret := (some .char)) (own := RJ1) (by decide) (Nat.le_of_ble_eq_true rfl) rfl ?_
  intro p e s m args below meth c A C hr hlk hnm
  refine s_lv (lv1 := [(0, .ref (adV a0)), (1, .int a1)]) [0, 1] rfl ?_
  unfold f_J1_charAt_3b067 at hf
  obtain ⟨hsa0, hf⟩ := ck_ltJ hf
  refine s_iload_n C 1 1 rfl dJ1_charAt_3b067_0 rfl ?_
  refine s_aload_n C 2 0 rfl dJ1_charAt_3b067_1 rfl ?_
  refine s_alenS C 3 hsa0 rfl dJ1_charAt_3b067_2 ?_
  obtain ⟨r1, q2, hf⟩ := bn_s hf
  refine s_callS0 (host := "") (rest := []) C 6 (c_J0_checkIndex_df160 l D cI adK adV a1 (nI (lenJS.getD a0 0)) r1 q2) (gS uu244 uu246 uu7 uu247) hd_J0_checkIndex_df160 rfl ⟨rfl, rfl⟩ ⟨Nat.le_of_ble_eq_true rfl, Nat.le_of_ble_eq_true rfl⟩ ⟨Nat.le_of_ble_eq_true rfl, Nat.le_of_ble_eq_true rfl⟩ rfl (Nat.le_of_ble_eq_true rfl) rfl dJ1_charAt_3b067_3 ?_
  refine s_aload_n C 7 0 rfl dJ1_charAt_3b067_6 rfl ?_
  refine s_iload_n C 8 1 rfl dJ1_charAt_3b067_7 rfl ?_
  obtain ⟨h3, hf⟩ := ck_in hf
  refine s_baldS C 9 hsa0 h3 rfl dJ1_charAt_3b067_8 ?_
  refine s_sipush C 12 rfl dJ1_charAt_3b067_9 sp_255 ?_
  refine s_iand C 13 rfl dJ1_charAt_3b067_12 ?_
  refine s_i2c C 14 rfl dJ1_charAt_3b067_13 ?_
  obtain ⟨h4, hf⟩ := ck_isc hf
  obtain rfl := Option.some.inj hf
  exact s_cret C (fun i => i) hr hlk h4 rfl rfl dJ1_charAt_3b067_14


theorem hd_J1_indexOf_4cfef : yJ1_indexOf_4cfef.cls ≠ "java/lang/invoke/MethodHandle" ∧ yJ1_indexOf_4cfef.cls ≠ "java/lang/invoke/VarHandle" ∧ (parseMethodDescriptor yJ1_indexOf_4cfef.desc).map (fun d => d.parameters.length) = some 4 := by decide +kernel
set_option maxHeartbeats 4000000 in
set_option maxRecDepth 100000 in
theorem c_J1_indexOf_4cfef (l : Launch) (D : va_G) (cI : ClassId) (adK adV : Nat → Nat)   (a0 : Nat) (a1 : Int32) (a2 : Int32) (a3 : Int32) (o : Int32) (hf : f_J1_indexOf_4cfef a0 a1 a2 a3 = some o) : Ct l D cI adK adV yJ1_indexOf_4cfef (wy yJ1_indexOf_4cfef cJ1_indexOf_4cfef 4 (some .int)) { frames := 1, cells := 0, slots := 0, locals := 25 } 0 0 [.ref (adV a0), .int a1, .int a2, .int a3] [] (fun _ => []) (some (.int o)) := by
  refine Ct.of (cc := cJ1_indexOf_4cfef) (nL := 4) (ret := (some .int)) (own := RJ1) (by decide) (Nat.le_of_ble_eq_true rfl) rfl ?_
  intro p e s m args below meth c A C hr hlk hnm
  refine s_lv (lv1 := [(0, .ref (adV a0)), (1, .int a1), (2, .int a2), (3, .int a3)]) [0, 1, 2, 3] rfl ?_
  unfold f_J1_indexOf_4cfef at hf
  obtain ⟨hsa0, hf⟩ := ck_ltJ hf
  refine s_iload_n C 1 1 rfl dJ1_indexOf_4cfef_0 rfl ?_
  obtain ⟨r1, q2, hf⟩ := bn_s hf
  refine s_callS0 (host := "") (rest := []) C 4 (c_J1_canEncode_9a6ad l D cI adK adV a1 r1 q2) (gS uu303 uu305 uu8 uu306) hd_J1_canEncode_9a6ad rfl ⟨rfl, rfl⟩ ⟨Nat.le_of_ble_eq_true rfl, Nat.le_of_ble_eq_true rfl⟩ ⟨Nat.le_of_ble_eq_true rfl, Nat.le_of_ble_eq_true rfl⟩ rfl (Nat.le_of_ble_eq_true rfl) rfl dJ1_indexOf_4cfef_1 ?_
  refine s_if_ne C 9 7 rfl dJ1_indexOf_4cfef_4 rfl (fun hc6 => ?_) (fun hc6 => ?_)
  · replace hf := ite_f hc6 hf
    refine s_iload_n C 10 2 rfl dJ1_indexOf_4cfef_9 rfl ?_
    refine s_iconst C 11 rfl dJ1_indexOf_4cfef_10 ic_0 ?_
    refine s_mmax C 14 uu308 uu310 uu11 uu311 ⟨Nat.le_of_ble_eq_true rfl, Nat.le_of_ble_eq_true rfl, Nat.le_of_ble_eq_true rfl, Nat.le_of_ble_eq_true rfl⟩ rfl dJ1_indexOf_4cfef_11 ?_
    refine s_istore_n (lv1 := [(2, .int (jmax a2 (0 : Int32))), (0, .ref (adV a0)), (1, .int a1), (3, .int a3)]) C 15 2 rfl dJ1_indexOf_4cfef_14 rfl (Nat.le_of_ble_eq_true rfl) rfl ?_
    refine s_iload_n C 16 3 rfl dJ1_indexOf_4cfef_15 rfl ?_
    refine s_aload_n C 17 1 rfl dJ1_indexOf_4cfef_16 rfl ?_
    refine s_alenS C 18 hsa0 rfl dJ1_indexOf_4cfef_17 ?_
    refine s_mmin C 21 uu313 uu315 uu11 uu316 ⟨Nat.le_of_ble_eq_true rfl, Nat.le_of_ble_eq_true rfl, Nat.le_of_ble_eq_true rfl, Nat.le_of_ble_eq_true rfl⟩ rfl dJ1_indexOf_4cfef_18 ?_
    refine s_istore_n (lv1 := [(3, .int (jmin a3 (nI (lenJS.getD a0 0)))), (2, .int (jmax a2 (0 : Int32))), (0, .ref (adV a0)), (1, .int a1)]) C 22 3 rfl dJ1_indexOf_4cfef_21 rfl (Nat.le_of_ble_eq_true rfl) rfl ?_
    refine s_iload_n C 23 1 rfl dJ1_indexOf_4cfef_22 rfl ?_
    refine s_iload_n C 24 0 rfl dJ1_indexOf_4cfef_23 rfl ?_
    refine s_icmp_lt C 29 27 rfl dJ1_indexOf_4cfef_24 rfl (fun hc5 => ?_) (fun hc5 => ?_)
    · replace hf := ite_t hc5 hf
      refine s_aload_n C 30 2 rfl dJ1_indexOf_4cfef_29 rfl ?_
      refine s_iload_n C 31 3 rfl dJ1_indexOf_4cfef_30 rfl ?_
      refine s_iload_n C 32 1 rfl dJ1_indexOf_4cfef_31 rfl ?_
      refine s_iload_n C 33 0 rfl dJ1_indexOf_4cfef_32 rfl ?_
      obtain ⟨r3, q4, hf⟩ := bn_s hf
      refine s_callS0 (host := "") (rest := []) C 36 (c_J1_indexOfChar_4cfef l D cI adK adV a0 a1 (jmax a2 (0 : Int32)) (jmin a3 (nI (lenJS.getD a0 0))) r3 q4) (gS uu318 uu320 uu8 uu321) hd_J1_indexOfChar_4cfef rfl ⟨rfl, rfl⟩ ⟨Nat.le_of_ble_eq_true rfl, Nat.le_of_ble_eq_true rfl⟩ ⟨Nat.le_of_ble_eq_true rfl, Nat.le_of_ble_eq_true rfl⟩ rfl (Nat.le_of_ble_eq_true rfl) rfl dJ1_indexOf_4cfef_33 ?_
      obtain rfl := Option.some.inj hf
      exact s_iret C (fun i => i) hr hlk rfl rfl dJ1_indexOf_4cfef_36
    · replace hf := ite_f hc5 hf
      refine s_iconst C 28 rfl dJ1_indexOf_4cfef_27 ic_m1 ?_
      obtain rfl := Option.some.inj hf
      exact s_iret C (fun i => i) hr hlk rfl rfl dJ1_indexOf_4cfef_28
  · replace hf := ite_t hc6 hf
    refine s_iconst C 8 rfl dJ1_indexOf_4cfef_7 ic_m1 ?_
    obtain rfl := Option.some.inj hf
    exact s_iret C (fun i => i) hr hlk rfl rfl dJ1_indexOf_4cfef_8


theorem hd_J0_charAt_5068e : yJ0_charAt_5068e.cls = RJ0 ∧ yJ0_charAt_5068e.cls ≠ "java/lang/invoke/MethodHandle" ∧ yJ0_charAt_5068e.cls ≠ "java/lang/invoke/VarHandle" ∧ (parseMethodDescriptor yJ0_charAt_5068e.desc).map (fun d => d.parameters.length) = some 1 := by decide +kernel
set_option maxHeartbeats 4000000 in
set_option maxRecDepth 100000 in
theorem c_J0_charAt_5068e (l : Launch) (D : va_G) (cI : ClassId) (adK adV : Nat → Nat)   (a0 : Nat) (a1 : Int32) (o : Int32) (hf : f_J0_charAt_5068e a0 a1 = some o) : Ct l D cI adK adV yJ0_charAt_5068e (wy yJ0_charAt_5068e cJ0_charAt_5068e 2 (some .char)) { frames := 3, cells := 0, slots := 0, locals := 64 } 0 0 [.ref (adK a0), .int a1] [] (fun _ => []) (some (.int o)) := by
  refine Ct.of (cc := cJ0_charAt_5068e) (nL := 2) (ret := (some .char)) (own := RJ0) (by decide) (Nat.le_of_ble_eq_true rfl) rfl ?_
  intro p e s m args below meth c A C hr hlk hnm
  refine s_lv (lv1 := [(0, .ref (adK a0)), (1, .int a1)]) [0, 1] rfl ?_
  unfold f_J0_charAt_5068e at hf
  obtain ⟨hsa0, hf⟩ := ck_ltJ hf
  refine s_aload_n C 1 0 rfl dJ0_charAt_5068e_0 rfl ?_
  obtain ⟨r1, q2, hf⟩ := bn_s hf
  refine s_callT (rest := []) C 4 hsa0 (c_J0_isLatin1_aae02 l D cI adK adV a0 r1 q2) (gV uu233 uu235 uu236 uu7 uu237) hd_J0_isLatin1_aae02 rfl ⟨rfl, rfl⟩ ⟨Nat.le_of_ble_eq_true rfl, Nat.le_of_ble_eq_true rfl⟩ ⟨Nat.le_of_ble_eq_true rfl, Nat.le_of_ble_eq_true rfl⟩ rfl (Nat.le_of_ble_eq_true rfl) rfl dJ0_charAt_5068e_1 ?_
  refine s_if_eq C 16 7 rfl dJ0_charAt_5068e_4 rfl (fun hc6 => ?_) (fun hc6 => ?_)
  · replace hf := ite_t hc6 hf
    refine s_aload_n C 17 0 rfl dJ0_charAt_5068e_16 rfl ?_
    refine s_getSv C 20 hsa0 uu1537 rfl rfl dJ0_charAt_5068e_17 ?_
    refine s_iload_n C 21 1 rfl dJ0_charAt_5068e_20 rfl ?_
    cases hf
  · replace hf := ite_f hc6 hf
    refine s_aload_n C 8 0 rfl dJ0_charAt_5068e_7 rfl ?_
    refine s_getSv C 11 hsa0 uu1537 rfl rfl dJ0_charAt_5068e_8 ?_
    refine s_iload_n C 12 1 rfl dJ0_charAt_5068e_11 rfl ?_
    obtain ⟨r3, q4, hf⟩ := bn_s hf
    refine s_callS0 (host := "") (rest := []) C 15 (c_J1_charAt_3b067 l D cI adK adV a0 a1 r3 q4) (gS uu239 uu241 uu8 uu242) hd_J1_charAt_3b067 rfl ⟨rfl, rfl⟩ ⟨Nat.le_of_ble_eq_true rfl, Nat.le_of_ble_eq_true rfl⟩ ⟨Nat.le_of_ble_eq_true rfl, Nat.le_of_ble_eq_true rfl⟩ rfl (Nat.le_of_ble_eq_true rfl) rfl dJ0_charAt_5068e_12 ?_
    obtain ⟨h5, hf⟩ := ck_isc hf
    obtain rfl := Option.some.inj hf
    exact s_cret C (fun i => i) hr hlk h5 rfl rfl dJ0_charAt_5068e_15


theorem hd_J0_indexOf_7cf53 : yJ0_indexOf_7cf53.cls = RJ0 ∧ yJ0_indexOf_7cf53.cls ≠ "java/lang/invoke/MethodHandle" ∧ yJ0_indexOf_7cf53.cls ≠ "java/lang/invoke/VarHandle" ∧ (parseMethodDescriptor yJ0_indexOf_7cf53.desc).map (fun d => d.parameters.length) = some 2 := by decide +kernel
set_option maxHeartbeats 4000000 in
set_option maxRecDepth 100000 in
theorem c_J0_indexOf_7cf53 (l : Launch) (D : va_G) (cI : ClassId) (adK adV : Nat → Nat)   (a0 : Nat) (a1 : Int32) (a2 : Int32) (o : Int32) (hf : f_J0_indexOf_7cf53 a0 a1 a2 = some o) : Ct l D cI adK adV yJ0_indexOf_7cf53 (wy yJ0_indexOf_7cf53 cJ0_indexOf_7cf53 3 (some .int)) { frames := 2, cells := 0, slots := 0, locals := 48 } 0 0 [.ref (adK a0), .int a1, .int a2] [] (fun _ => []) (some (.int o)) := by
  refine Ct.of (cc := cJ0_indexOf_7cf53) (nL := 3) (ret := (some .int)) (own := RJ0) (by decide) (Nat.le_of_ble_eq_true rfl) rfl ?_
  intro p e s m args below meth c A C hr hlk hnm
  refine s_lv (lv1 := [(0, .ref (adK a0)), (1, .int a1), (2, .int a2)]) [0, 1, 2] rfl ?_
  unfold f_J0_indexOf_7cf53 at hf
  obtain ⟨hsa0, hf⟩ := ck_ltJ hf
  refine s_aload_n C 1 0 rfl dJ0_indexOf_7cf53_0 rfl ?_
  obtain ⟨r1, q2, hf⟩ := bn_s hf
  refine s_callT (rest := []) C 4 hsa0 (c_J0_isLatin1_aae02 l D cI adK adV a0 r1 q2) (gV uu233 uu235 uu236 uu7 uu237) hd_J0_isLatin1_aae02 rfl ⟨rfl, rfl⟩ ⟨Nat.le_of_ble_eq_true rfl, Nat.le_of_ble_eq_true rfl⟩ ⟨Nat.le_of_ble_eq_true rfl, Nat.le_of_ble_eq_true rfl⟩ rfl (Nat.le_of_ble_eq_true rfl) rfl dJ0_indexOf_7cf53_1 ?_
  refine s_if_eq C 23 7 rfl dJ0_indexOf_7cf53_4 rfl (fun hc9 => ?_) (fun hc9 => ?_)
  · replace hf := ite_t hc9 hf
    refine s_aload_n C 24 0 rfl dJ0_indexOf_7cf53_23 rfl ?_
    refine s_getSv C 27 hsa0 uu1537 rfl rfl dJ0_indexOf_7cf53_24 ?_
    refine s_iload_n C 28 1 rfl dJ0_indexOf_7cf53_27 rfl ?_
    refine s_iload_n C 29 2 rfl dJ0_indexOf_7cf53_28 rfl ?_
    refine s_aload_n C 30 0 rfl dJ0_indexOf_7cf53_29 rfl ?_
    obtain ⟨r3, q4, hf⟩ := bn_s hf
    refine s_callT (rest := [.int a2, .int a1, .ref (adV a0)]) C 33 hsa0 (c_J0_length_8abf5 l D cI adK adV a0 r3 q4) (gV uu296 uu215 uu216 uu7 uu217) hd_J0_length_8abf5 rfl ⟨rfl, rfl⟩ ⟨Nat.le_of_ble_eq_true rfl, Nat.le_of_ble_eq_true rfl⟩ ⟨Nat.le_of_ble_eq_true rfl, Nat.le_of_ble_eq_true rfl⟩ rfl (Nat.le_of_ble_eq_true rfl) rfl dJ0_indexOf_7cf53_30 ?_
    cases hf
  · replace hf := ite_f hc9 hf
    refine s_aload_n C 8 0 rfl dJ0_indexOf_7cf53_7 rfl ?_
    refine s_getSv C 11 hsa0 uu1537 rfl rfl dJ0_indexOf_7cf53_8 ?_
    refine s_iload_n C 12 1 rfl dJ0_indexOf_7cf53_11 rfl ?_
    refine s_iload_n C 13 2 rfl dJ0_indexOf_7cf53_12 rfl ?_
    refine s_aload_n C 14 0 rfl dJ0_indexOf_7cf53_13 rfl ?_
    obtain ⟨r5, q6, hf⟩ := bn_s hf
    refine s_callT (rest := [.int a2, .int a1, .ref (adV a0)]) C 17 hsa0 (c_J0_length_8abf5 l D cI adK adV a0 r5 q6) (gV uu296 uu215 uu216 uu7 uu217) hd_J0_length_8abf5 rfl ⟨rfl, rfl⟩ ⟨Nat.le_of_ble_eq_true rfl, Nat.le_of_ble_eq_true rfl⟩ ⟨Nat.le_of_ble_eq_true rfl, Nat.le_of_ble_eq_true rfl⟩ rfl (Nat.le_of_ble_eq_true rfl) rfl dJ0_indexOf_7cf53_14 ?_
    obtain ⟨r7, q8, hf⟩ := bn_s hf
    refine s_callS0 (host := "") (rest := []) C 20 (c_J1_indexOf_4cfef l D cI adK adV a0 a1 a2 r5 r7 q8) (gS uu298 uu300 uu8 uu301) hd_J1_indexOf_4cfef rfl ⟨rfl, rfl⟩ ⟨Nat.le_of_ble_eq_true rfl, Nat.le_of_ble_eq_true rfl⟩ ⟨Nat.le_of_ble_eq_true rfl, Nat.le_of_ble_eq_true rfl⟩ rfl (Nat.le_of_ble_eq_true rfl) rfl dJ0_indexOf_7cf53_17 ?_
    refine s_goto C 36 dJ0_indexOf_7cf53_20 rfl ?_
    obtain rfl := Option.some.inj hf
    exact s_iret C (fun i => i) hr hlk rfl rfl dJ0_indexOf_7cf53_36


theorem hd_J0_indexOf_0f7a4 : yJ0_indexOf_0f7a4.cls = RJ0 ∧ yJ0_indexOf_0f7a4.cls ≠ "java/lang/invoke/MethodHandle" ∧ yJ0_indexOf_0f7a4.cls ≠ "java/lang/invoke/VarHandle" ∧ (parseMethodDescriptor yJ0_indexOf_0f7a4.desc).map (fun d => d.parameters.length) = some 1 := by decide +kernel
set_option maxHeartbeats 4000000 in
set_option maxRecDepth 100000 in
theorem c_J0_indexOf_0f7a4 (l : Launch) (D : va_G) (cI : ClassId) (adK adV : Nat → Nat)   (a0 : Nat) (a1 : Int32) (o : Int32) (hf : f_J0_indexOf_0f7a4 a0 a1 = some o) : Ct l D cI adK adV yJ0_indexOf_0f7a4 (wy yJ0_indexOf_0f7a4 cJ0_indexOf_0f7a4 2 (some .int)) { frames := 3, cells := 0, slots := 0, locals := 70 } 0 0 [.ref (adK a0), .int a1] [] (fun _ => []) (some (.int o)) := by
  refine Ct.of (cc := cJ0_indexOf_0f7a4) (nL := 2) (ret := (some .int)) (own := RJ0) (by decide) (Nat.le_of_ble_eq_true rfl) rfl ?_
  intro p e s m args below meth c A C hr hlk hnm
  refine s_lv (lv1 := [(0, .ref (adK a0)), (1, .int a1)]) [0, 1] rfl ?_
  unfold f_J0_indexOf_0f7a4 at hf
  obtain ⟨hsa0, hf⟩ := ck_ltJ hf
  refine s_aload_n C 1 0 rfl dJ0_indexOf_0f7a4_0 rfl ?_
  refine s_iload_n C 2 1 rfl dJ0_indexOf_0f7a4_1 rfl ?_
  refine s_iconst C 3 rfl dJ0_indexOf_0f7a4_2 ic_0 ?_
  obtain ⟨r1, q2, hf⟩ := bn_s hf
  refine s_callT (rest := []) C 6 hsa0 (c_J0_indexOf_7cf53 l D cI adK adV a0 a1 (0 : Int32) r1 q2) (gV uu290 uu292 uu293 uu7 uu294) hd_J0_indexOf_7cf53 rfl ⟨rfl, rfl⟩ ⟨Nat.le_of_ble_eq_true rfl, Nat.le_of_ble_eq_true rfl⟩ ⟨Nat.le_of_ble_eq_true rfl, Nat.le_of_ble_eq_true rfl⟩ rfl (Nat.le_of_ble_eq_true rfl) rfl dJ0_indexOf_0f7a4_3 ?_
  obtain rfl := Option.some.inj hf
  exact s_iret C (fun i => i) hr hlk rfl rfl dJ0_indexOf_0f7a4_6

