theorem hd_String_coder : y_String_coder.cls ≠ "java/lang/invoke/MethodHandle" ∧ y_String_coder.cls ≠ "java/lang/invoke/VarHandle" ∧ (parseMethodDescriptor y_String_coder.desc).map (fun d => d.parameters.length) = some 0 := by decide +kernel
theorem d_String_coder_0 : decode b_String_coder 0 = .ok (.getstatic 38, 3) := by decide +kernel
theorem d_String_coder_3 : decode b_String_coder 3 = .ok (.ifCond .eq 10, 3) := by decide +kernel
theorem d_String_coder_6 : decode b_String_coder 6 = .ok (.aload_n 0, 1) := by decide +kernel
theorem d_String_coder_7 : decode b_String_coder 7 = .ok (.getfield 15, 3) := by decide +kernel
theorem d_String_coder_10 : decode b_String_coder 10 = .ok (.goto 4, 3) := by decide +kernel
theorem d_String_coder_13 : decode b_String_coder 13 = .ok (.iconst 1, 1) := by decide +kernel
theorem d_String_coder_14 : decode b_String_coder 14 = .ok (.ireturn, 1) := by decide +kernel
def p_String_coder (n : Nat) (v0 : Nat)  : Option (Int32) := some 0
set_option maxHeartbeats 4000000 in
theorem c_String_coder (l : Launch) (n : Nat) (adK adV : Nat → Nat) (v0 : Nat)  (hv0 : v0 < 12) : MTi l y_String_coder b_String_coder 1 .byte (rL 1) adK adV [.ref (adK v0)] (p_String_coder n v0 ) := by
  refine en_ti (by decide) (Nat.le_of_ble_eq_true rfl) ?_
  intro z hf p e s m args below meth c ls hx hb hml hown hT hr hlk hTS hl
  have hl : lv_has ls 1 [(0, .ref (adK v0))] := hl
  unfold p_String_coder at hf
  refine va_gets hx hb hTS.2.1 va_S.rf hown (hT _ fl_String_38) (fun _ h9 => h9) d_String_coder_0 ?_
  refine lv_if_eq (tgt := 13) hx hb d_String_coder_3 (by decide) (fun hc => absurd hc (by decide)) (fun _ => ?_)
  refine lv_aload_n hx hb d_String_coder_6 rfl (lv_at hl 0 rfl) ?_
  refine vk_getf hx hb (hTS.1.1 v0 hv0).2.1 va_S.rf hown (hT _ fl_String_15) (fun _ h9 => h9) d_String_coder_7 ?_
  refine lv_goto (tgt := 14) hx hb d_String_coder_10 (by decide) ?_
  obtain rfl := op_i1 hf
  exact rt_si hx hb hr hlk (by decide) d_String_coder_14
theorem hd_String_length : y_String_length.cls ≠ "java/lang/invoke/MethodHandle" ∧ y_String_length.cls ≠ "java/lang/invoke/VarHandle" ∧ (parseMethodDescriptor y_String_length.desc).map (fun d => d.parameters.length) = some 0 := by decide +kernel
theorem d_String_length_0 : decode b_String_length 0 = .ok (.aload_n 0, 1) := by decide +kernel
theorem d_String_length_1 : decode b_String_length 1 = .ok (.getfield 9, 3) := by decide +kernel
theorem d_String_length_4 : decode b_String_length 4 = .ok (.arraylength, 1) := by decide +kernel
theorem d_String_length_5 : decode b_String_length 5 = .ok (.aload_n 0, 1) := by decide +kernel
theorem d_String_length_6 : decode b_String_length 6 = .ok (.invokevirtual 335, 3) := by decide +kernel
theorem d_String_length_9 : decode b_String_length 9 = .ok (.ishr, 1) := by decide +kernel
theorem d_String_length_10 : decode b_String_length 10 = .ok (.ireturn, 1) := by decide +kernel
def p_String_length (n : Nat) (v0 : Nat)  : Option (Int32) := (p_String_coder n v0).bind fun x2 => some (((sLen v0) >>> (x2 &&& 31)))
set_option maxHeartbeats 4000000 in
theorem c_String_length (l : Launch) (n : Nat) (adK adV : Nat → Nat) (v0 : Nat)  (hv0 : v0 < 12) : MTi l y_String_length b_String_length 1 .int (rL 2) adK adV [.ref (adK v0)] (p_String_length n v0 ) := by
  refine en_ti (by decide) (Nat.le_of_ble_eq_true rfl) ?_
  intro z hf p e s m args below meth c ls hx hb hml hown hT hr hlk hTS hl
  have hl : lv_has ls 1 [(0, .ref (adK v0))] := hl
  unfold p_String_length at hf
  refine lv_aload_n hx hb d_String_length_0 rfl (lv_at hl 0 rfl) ?_
  refine vk_getf hx hb (hTS.1.1 v0 hv0).2.2.1 va_S.rf hown (hT _ fl_String_9) (fun _ h9 => h9) d_String_length_1 ?_
  refine va_tlen (v := sLen v0) hx hb (hTS.1.1 v0 hv0).2.2.2 va_S.rf rfl d_String_length_4 ?_
  refine lv_aload_n hx hb d_String_length_5 rfl (lv_at hl 0 rfl) ?_
  obtain ⟨x2, hc1, hf⟩ := op_bind hf
  refine kt_v (i := v0) (rest := [.int (sLen v0)]) hx hb hml hown hT hTS hv0 (c_String_coder l n adK adV v0 hv0 _ hc1) (cbW 0 hT cd_String_coder rfl rfl ini_String ml_String_335 hd_String_coder ⟨Nat.le_of_ble_eq_true rfl, Nat.le_of_ble_eq_true rfl⟩) im_String_coder se_String_String_coder__String_coder rfl hl.1 rfl (Nat.le_of_ble_eq_true rfl) d_String_length_6 ⟨Nat.zero_le _, Nat.zero_le _⟩ ?_
  refine lv_ishr hx hb d_String_length_9 ?_
  obtain rfl := op_i1 hf
  exact rt_si hx hb hr hlk rfl d_String_length_10
theorem hd_String_isLatin1 : y_String_isLatin1.cls ≠ "java/lang/invoke/MethodHandle" ∧ y_String_isLatin1.cls ≠ "java/lang/invoke/VarHandle" ∧ (parseMethodDescriptor y_String_isLatin1.desc).map (fun d => d.parameters.length) = some 0 := by decide +kernel
theorem d_String_isLatin1_0 : decode b_String_isLatin1 0 = .ok (.getstatic 38, 3) := by decide +kernel
theorem d_String_isLatin1_3 : decode b_String_isLatin1 3 = .ok (.ifCond .eq 14, 3) := by decide +kernel
theorem d_String_isLatin1_6 : decode b_String_isLatin1 6 = .ok (.aload_n 0, 1) := by decide +kernel
theorem d_String_isLatin1_7 : decode b_String_isLatin1 7 = .ok (.getfield 15, 3) := by decide +kernel
theorem d_String_isLatin1_10 : decode b_String_isLatin1 10 = .ok (.ifCond .ne 7, 3) := by decide +kernel
theorem d_String_isLatin1_13 : decode b_String_isLatin1 13 = .ok (.iconst 1, 1) := by decide +kernel
theorem d_String_isLatin1_14 : decode b_String_isLatin1 14 = .ok (.goto 4, 3) := by decide +kernel
theorem d_String_isLatin1_17 : decode b_String_isLatin1 17 = .ok (.iconst 0, 1) := by decide +kernel
theorem d_String_isLatin1_18 : decode b_String_isLatin1 18 = .ok (.ireturn, 1) := by decide +kernel
def p_String_isLatin1 (n : Nat) (v0 : Nat)  : Option (Int32) := some 1
set_option maxHeartbeats 4000000 in
theorem c_String_isLatin1 (l : Launch) (n : Nat) (adK adV : Nat → Nat) (v0 : Nat)  (hv0 : v0 < 12) : MTi l y_String_isLatin1 b_String_isLatin1 1 .boolean (rL 1) adK adV [.ref (adK v0)] (p_String_isLatin1 n v0 ) := by
  refine en_ti (by decide) (Nat.le_of_ble_eq_true rfl) ?_
  intro z hf p e s m args below meth c ls hx hb hml hown hT hr hlk hTS hl
  have hl : lv_has ls 1 [(0, .ref (adK v0))] := hl
  unfold p_String_isLatin1 at hf
  refine va_gets hx hb hTS.2.1 va_S.rf hown (hT _ fl_String_38) (fun _ h9 => h9) d_String_isLatin1_0 ?_
  refine lv_if_eq (tgt := 17) hx hb d_String_isLatin1_3 (by decide) (fun hc => absurd hc (by decide)) (fun _ => ?_)
  refine lv_aload_n hx hb d_String_isLatin1_6 rfl (lv_at hl 0 rfl) ?_
  refine vk_getf hx hb (hTS.1.1 v0 hv0).2.1 va_S.rf hown (hT _ fl_String_15) (fun _ h9 => h9) d_String_isLatin1_7 ?_
  refine lv_if_ne (tgt := 17) hx hb d_String_isLatin1_10 (by decide) (fun hc => absurd hc (by decide)) (fun _ => ?_)
  refine lv_iconst (v := 1) hx hb d_String_isLatin1_13 (by decide) ?_
  refine lv_goto (tgt := 18) hx hb d_String_isLatin1_14 (by decide) ?_
  obtain rfl := op_i1 hf
  exact rt_si hx hb hr hlk (by decide) d_String_isLatin1_18
theorem hd_Pre_checkIndex : y_Pre_checkIndex.cls ≠ "java/lang/invoke/MethodHandle" ∧ y_Pre_checkIndex.cls ≠ "java/lang/invoke/VarHandle" ∧ (parseMethodDescriptor y_Pre_checkIndex.desc).map (fun d => d.parameters.length) = some 3 := by decide +kernel
theorem d_Pre_checkIndex_0 : decode b_Pre_checkIndex 0 = .ok (.iload_n 0, 1) := by decide +kernel
theorem d_Pre_checkIndex_1 : decode b_Pre_checkIndex 1 = .ok (.ifCond .lt 8, 3) := by decide +kernel
theorem d_Pre_checkIndex_4 : decode b_Pre_checkIndex 4 = .ok (.iload_n 0, 1) := by decide +kernel
theorem d_Pre_checkIndex_5 : decode b_Pre_checkIndex 5 = .ok (.iload_n 1, 1) := by decide +kernel
theorem d_Pre_checkIndex_6 : decode b_Pre_checkIndex 6 = .ok (.if_icmp .lt 10, 3) := by decide +kernel
theorem d_Pre_checkIndex_9 : decode b_Pre_checkIndex 9 = .ok (.aload_n 2, 1) := by decide +kernel
theorem d_Pre_checkIndex_10 : decode b_Pre_checkIndex 10 = .ok (.iload_n 0, 1) := by decide +kernel
theorem d_Pre_checkIndex_11 : decode b_Pre_checkIndex 11 = .ok (.iload_n 1, 1) := by decide +kernel
theorem d_Pre_checkIndex_12 : decode b_Pre_checkIndex 12 = .ok (.invokestatic 95, 3) := by decide +kernel
theorem d_Pre_checkIndex_15 : decode b_Pre_checkIndex 15 = .ok (.athrow, 1) := by decide +kernel
theorem d_Pre_checkIndex_16 : decode b_Pre_checkIndex 16 = .ok (.iload_n 0, 1) := by decide +kernel
theorem d_Pre_checkIndex_17 : decode b_Pre_checkIndex 17 = .ok (.ireturn, 1) := by decide +kernel
def p_Pre_checkIndex (n : Nat) (v0 : Int32) (v1 : Int32)  : Option (Int32) := (if v0 < 0 then none else (if v0 < v1 then some () else none) : Option (Unit)).bind fun _ => some v0
set_option maxHeartbeats 4000000 in
theorem c_Pre_checkIndex (l : Launch) (n : Nat) (adK adV : Nat → Nat) (v0 : Int32) (v1 : Int32) (v2 : Option Nat)   : MTi l y_Pre_checkIndex b_Pre_checkIndex 3 .int (rL 1) adK adV [.int v0, .int v1, va_rf v2] (p_Pre_checkIndex n v0 v1 ) := by
  refine en_ti (by decide) (by cases v2 <;> exact Nat.le_of_ble_eq_true rfl) ?_
  intro z hf p e s m args below meth c ls hx hb hml hown hT hr hlk hTS hl
  have hl : lv_has ls 3 [(0, .int v0), (1, .int v1), (2, va_rf v2)] := hl
  unfold p_Pre_checkIndex at hf
  refine lv_iload_n hx hb d_Pre_checkIndex_0 rfl (lv_at hl 0 rfl) ?_
  obtain ⟨_, he, hf⟩ := op_bind hf
  have K1 : ∀ (ls : Array Slot), lv_has ls 3 [(0, .int v0)] → W p l e (rL 1) s m args below meth c s.heap [] 0 0 (MQ below (fun _ st oc t => oc = .returned (some (.int z)) ∧ t.heap = st.heap) args s 0 0 (fun _ => False)) (F0 m 16 ls []) := by
    intro ls hl
    refine lv_iload_n hx hb d_Pre_checkIndex_16 rfl (lv_at hl 0 rfl) ?_
    obtain rfl := op_i1 hf
    exact rt_si hx hb hr hlk rfl d_Pre_checkIndex_17
  have hf := he
  refine lv_if_lt (tgt := 9) hx hb d_Pre_checkIndex_1 (by decide) (fun hc => ?_) (fun hc => ?_)
  · have hf := op_t hc hf
    cases hf
  · have hf := op_f hc hf
    refine lv_iload_n hx hb d_Pre_checkIndex_4 rfl (lv_at hl 0 rfl) ?_
    refine lv_iload_n hx hb d_Pre_checkIndex_5 rfl (lv_at hl 1 rfl) ?_
    refine lv_icmp_lt (tgt := 16) hx hb d_Pre_checkIndex_6 (by decide) (fun hc => ?_) (fun hc => ?_)
    · have hf := op_t hc hf
      exact K1 ls (lv_sub hl [0] rfl)
    · have hf := op_f hc hf
      cases hf
theorem hd_String_checkIndex : y_String_checkIndex.cls ≠ "java/lang/invoke/MethodHandle" ∧ y_String_checkIndex.cls ≠ "java/lang/invoke/VarHandle" ∧ (parseMethodDescriptor y_String_checkIndex.desc).map (fun d => d.parameters.length) = some 2 := by decide +kernel
theorem d_String_checkIndex_0 : decode b_String_checkIndex 0 = .ok (.iload_n 0, 1) := by decide +kernel
theorem d_String_checkIndex_1 : decode b_String_checkIndex 1 = .ok (.iload_n 1, 1) := by decide +kernel
theorem d_String_checkIndex_2 : decode b_String_checkIndex 2 = .ok (.getstatic 1053, 3) := by decide +kernel
theorem d_String_checkIndex_5 : decode b_String_checkIndex 5 = .ok (.invokestatic 1059, 3) := by decide +kernel
theorem d_String_checkIndex_8 : decode b_String_checkIndex 8 = .ok (.pop, 1) := by decide +kernel
theorem d_String_checkIndex_9 : decode b_String_checkIndex 9 = .ok (.return_, 1) := by decide +kernel
def p_String_checkIndex (n : Nat) (v0 : Int32) (v1 : Int32)  : Option (Unit) := (p_Pre_checkIndex n v0 v1).bind fun x3 => some ()
set_option maxHeartbeats 4000000 in
theorem c_String_checkIndex (l : Launch) (n : Nat) (adK adV : Nat → Nat) (v0 : Int32) (v1 : Int32)   : MTv l y_String_checkIndex b_String_checkIndex 2 (rL 2) adK adV [.int v0, .int v1] (p_String_checkIndex n v0 v1 ) := by
  refine en_tv (by decide) (Nat.le_of_ble_eq_true rfl) ?_
  intro z hf p e s m args below meth c ls hx hb hml hown hT hr hlk hTS hl
  have hl : lv_has ls 2 [(0, .int v0), (1, .int v1)] := hl
  unfold p_String_checkIndex at hf
  refine lv_iload_n hx hb d_String_checkIndex_0 rfl (lv_at hl 0 rfl) ?_
  refine lv_iload_n hx hb d_String_checkIndex_1 rfl (lv_at hl 1 rfl) ?_
  obtain ⟨q1, hzq1⟩ := zq_val hTS.2.2
  refine va_gets hx hb hzq1 va_S.rf hown (hT _ fl_String_1053) (fun _ h9 => h9) d_String_checkIndex_2 ?_
  obtain ⟨x3, hc2, hf⟩ := op_bind hf
  refine kt_s (rest := []) hx hb hml hown hT hTS (c_Pre_checkIndex l n adK adV v0 v1 q1  _ hc2) (cbW 3 hT cd_Pre_checkIndex rfl rfl ini_Pre ml_String_1059 hd_Pre_checkIndex ⟨Nat.le_of_ble_eq_true rfl, Nat.le_of_ble_eq_true rfl⟩) sm_Pre_checkIndex rfl hl.1 rfl (Nat.le_of_ble_eq_true rfl) d_String_checkIndex_5 ⟨Nat.zero_le _, Nat.zero_le _⟩ ?_
  refine lv_pop hx hb d_String_checkIndex_8 rfl ?_
  exact rt_sv hx hb hr hlk d_String_checkIndex_9
theorem hd_SL1_charAt : y_SL1_charAt.cls ≠ "java/lang/invoke/MethodHandle" ∧ y_SL1_charAt.cls ≠ "java/lang/invoke/VarHandle" ∧ (parseMethodDescriptor y_SL1_charAt.desc).map (fun d => d.parameters.length) = some 2 := by decide +kernel
theorem d_SL1_charAt_0 : decode b_SL1_charAt 0 = .ok (.iload_n 1, 1) := by decide +kernel
theorem d_SL1_charAt_1 : decode b_SL1_charAt 1 = .ok (.aload_n 0, 1) := by decide +kernel
theorem d_SL1_charAt_2 : decode b_SL1_charAt 2 = .ok (.arraylength, 1) := by decide +kernel
theorem d_SL1_charAt_3 : decode b_SL1_charAt 3 = .ok (.invokestatic 9, 3) := by decide +kernel
theorem d_SL1_charAt_6 : decode b_SL1_charAt 6 = .ok (.aload_n 0, 1) := by decide +kernel
theorem d_SL1_charAt_7 : decode b_SL1_charAt 7 = .ok (.iload_n 1, 1) := by decide +kernel
theorem d_SL1_charAt_8 : decode b_SL1_charAt 8 = .ok (.baload, 1) := by decide +kernel
theorem d_SL1_charAt_9 : decode b_SL1_charAt 9 = .ok (.sipush 255, 3) := by decide +kernel
theorem d_SL1_charAt_12 : decode b_SL1_charAt 12 = .ok (.iand, 1) := by decide +kernel
theorem d_SL1_charAt_13 : decode b_SL1_charAt 13 = .ok (.i2c, 1) := by decide +kernel
theorem d_SL1_charAt_14 : decode b_SL1_charAt 14 = .ok (.ireturn, 1) := by decide +kernel
def p_SL1_charAt (n : Nat) (v0 : Nat) (v1 : Int32)  : Option (Int32) := (p_String_checkIndex n v1 (sLen v0)).bind fun _ => if ix v1 (lenS.getD v0 0) then if isC ((((sCh v0 v1.toNatClampNeg) &&& 255).toUInt32 % 65536).toInt32) then some ((((sCh v0 v1.toNatClampNeg) &&& 255).toUInt32 % 65536).toInt32) else none else none
set_option maxHeartbeats 4000000 in
theorem c_SL1_charAt (l : Launch) (n : Nat) (adK adV : Nat → Nat) (v0 : Nat) (v1 : Int32)  (hv0 : v0 < 12) : MTi l y_SL1_charAt b_SL1_charAt 2 .char (rL 3) adK adV [.ref (adV v0), .int v1] (p_SL1_charAt n v0 v1 ) := by
  refine en_ti (by decide) (Nat.le_of_ble_eq_true rfl) ?_
  intro z hf p e s m args below meth c ls hx hb hml hown hT hr hlk hTS hl
  have hl : lv_has ls 2 [(0, .ref (adV v0)), (1, .int v1)] := hl
  unfold p_SL1_charAt at hf
  refine lv_iload_n hx hb d_SL1_charAt_0 rfl (lv_at hl 1 rfl) ?_
  refine lv_aload_n hx hb d_SL1_charAt_1 rfl (lv_at hl 0 rfl) ?_
  refine va_tlen (v := sLen v0) hx hb (hTS.1.1 v0 hv0).2.2.2 va_S.rf rfl d_SL1_charAt_2 ?_
  obtain ⟨x2, hc1, hf⟩ := op_bind hf
  refine kt_sv (z := x2) (rest := []) hx hb hml hown hT hTS (c_String_checkIndex l n adK adV v1 (sLen v0)  _ hc1) (cbW 2 hT cd_String_checkIndex rfl rfl ini_String ml_SL1_9 hd_String_checkIndex ⟨Nat.le_of_ble_eq_true rfl, Nat.le_of_ble_eq_true rfl⟩) sm_String_checkIndex rfl hl.1 rfl (Nat.le_of_ble_eq_true rfl) d_SL1_charAt_3 ⟨Nat.zero_le _, Nat.zero_le _⟩ ?_
  refine lv_aload_n hx hb d_SL1_charAt_6 rfl (lv_at hl 0 rfl) ?_
  refine lv_iload_n hx hb d_SL1_charAt_7 rfl (lv_at hl 1 rfl) ?_
  obtain ⟨h3, hf⟩ := op_if hf
  refine va_tb (v := .int (sCh v0 v1.toNatClampNeg)) hx hb (hTS.1.1 v0 hv0).2.2.2 va_S.rf h3 rfl d_SL1_charAt_8 ?_
  refine lv_sipush (v := 255) hx hb d_SL1_charAt_9 (by decide) ?_
  refine lv_iand hx hb d_SL1_charAt_12 ?_
  refine lv_i2c hx hb d_SL1_charAt_13 rfl ?_
  obtain ⟨h4, hf⟩ := op_if hf
  obtain rfl := op_i1 hf
  exact rt_si hx hb hr hlk (isC_nar h4) d_SL1_charAt_14
theorem hd_String_charAt : y_String_charAt.cls ≠ "java/lang/invoke/MethodHandle" ∧ y_String_charAt.cls ≠ "java/lang/invoke/VarHandle" ∧ (parseMethodDescriptor y_String_charAt.desc).map (fun d => d.parameters.length) = some 1 := by decide +kernel
theorem d_String_charAt_0 : decode b_String_charAt 0 = .ok (.aload_n 0, 1) := by decide +kernel
theorem d_String_charAt_1 : decode b_String_charAt 1 = .ok (.invokevirtual 492, 3) := by decide +kernel
theorem d_String_charAt_4 : decode b_String_charAt 4 = .ok (.ifCond .eq 12, 3) := by decide +kernel
theorem d_String_charAt_7 : decode b_String_charAt 7 = .ok (.aload_n 0, 1) := by decide +kernel
theorem d_String_charAt_8 : decode b_String_charAt 8 = .ok (.getfield 9, 3) := by decide +kernel
theorem d_String_charAt_11 : decode b_String_charAt 11 = .ok (.iload_n 1, 1) := by decide +kernel
theorem d_String_charAt_12 : decode b_String_charAt 12 = .ok (.invokestatic 495, 3) := by decide +kernel
theorem d_String_charAt_15 : decode b_String_charAt 15 = .ok (.ireturn, 1) := by decide +kernel
theorem d_String_charAt_16 : decode b_String_charAt 16 = .ok (.aload_n 0, 1) := by decide +kernel
theorem d_String_charAt_17 : decode b_String_charAt 17 = .ok (.getfield 9, 3) := by decide +kernel
theorem d_String_charAt_20 : decode b_String_charAt 20 = .ok (.iload_n 1, 1) := by decide +kernel
theorem d_String_charAt_21 : decode b_String_charAt 21 = .ok (.invokestatic 498, 3) := by decide +kernel
theorem d_String_charAt_24 : decode b_String_charAt 24 = .ok (.ireturn, 1) := by decide +kernel
def p_String_charAt (n : Nat) (v0 : Nat) (v1 : Int32)  : Option (Int32) := (p_String_isLatin1 n v0).bind fun x2 => (if x2 = 0 then none else (p_SL1_charAt n v0 v1).bind fun x4 => if isC x4 then some x4 else none)
set_option maxHeartbeats 4000000 in
theorem c_String_charAt (l : Launch) (n : Nat) (adK adV : Nat → Nat) (v0 : Nat) (v1 : Int32)  (hv0 : v0 < 12) : MTi l y_String_charAt b_String_charAt 2 .char (rL 4) adK adV [.ref (adK v0), .int v1] (p_String_charAt n v0 v1 ) := by
  refine en_ti (by decide) (Nat.le_of_ble_eq_true rfl) ?_
  intro z hf p e s m args below meth c ls hx hb hml hown hT hr hlk hTS hl
  have hl : lv_has ls 2 [(0, .ref (adK v0)), (1, .int v1)] := hl
  unfold p_String_charAt at hf
  refine lv_aload_n hx hb d_String_charAt_0 rfl (lv_at hl 0 rfl) ?_
  obtain ⟨x2, hc1, hf⟩ := op_bind hf
  refine kt_v (i := v0) (rest := []) hx hb hml hown hT hTS hv0 (c_String_isLatin1 l n adK adV v0 hv0 _ hc1) (cbW 0 hT cd_String_isLatin1 rfl rfl ini_String ml_String_492 hd_String_isLatin1 ⟨Nat.le_of_ble_eq_true rfl, Nat.le_of_ble_eq_true rfl⟩) im_String_isLatin1 se_String_String_isLatin1__String_isLatin1 rfl hl.1 rfl (Nat.le_of_ble_eq_true rfl) d_String_charAt_1 ⟨Nat.zero_le _, Nat.zero_le _⟩ ?_
  refine lv_if_eq (tgt := 16) hx hb d_String_charAt_4 (by decide) (fun hc => ?_) (fun hc => ?_)
  · have hf := op_t hc hf
    cases hf
  · have hf := op_f hc hf
    refine lv_aload_n hx hb d_String_charAt_7 rfl (lv_at hl 0 rfl) ?_
    refine vk_getf hx hb (hTS.1.1 v0 hv0).2.2.1 va_S.rf hown (hT _ fl_String_9) (fun _ h9 => h9) d_String_charAt_8 ?_
    refine lv_iload_n hx hb d_String_charAt_11 rfl (lv_at hl 1 rfl) ?_
    obtain ⟨x4, hc3, hf⟩ := op_bind hf
    refine kt_s (rest := []) hx hb hml hown hT hTS (c_SL1_charAt l n adK adV v0 v1 hv0 _ hc3) (cbW 2 hT cd_SL1_charAt rfl rfl ini_SL1 ml_String_495 hd_SL1_charAt ⟨Nat.le_of_ble_eq_true rfl, Nat.le_of_ble_eq_true rfl⟩) sm_SL1_charAt rfl hl.1 rfl (Nat.le_of_ble_eq_true rfl) d_String_charAt_12 ⟨Nat.zero_le _, Nat.zero_le _⟩ ?_
    obtain ⟨h5, hf⟩ := op_if hf
    obtain rfl := op_i1 hf
    exact rt_si hx hb hr hlk (isC_nar h5) d_String_charAt_15
theorem hd_SL1_canEncode : y_SL1_canEncode.cls ≠ "java/lang/invoke/MethodHandle" ∧ y_SL1_canEncode.cls ≠ "java/lang/invoke/VarHandle" ∧ (parseMethodDescriptor y_SL1_canEncode.desc).map (fun d => d.parameters.length) = some 1 := by decide +kernel
theorem d_SL1_canEncode_0 : decode b_SL1_canEncode 0 = .ok (.iload_n 0, 1) := by decide +kernel
theorem d_SL1_canEncode_1 : decode b_SL1_canEncode 1 = .ok (.ifCond .lt 14, 3) := by decide +kernel
theorem d_SL1_canEncode_4 : decode b_SL1_canEncode 4 = .ok (.iload_n 0, 1) := by decide +kernel
theorem d_SL1_canEncode_5 : decode b_SL1_canEncode 5 = .ok (.sipush 255, 3) := by decide +kernel
theorem d_SL1_canEncode_8 : decode b_SL1_canEncode 8 = .ok (.if_icmp .gt 7, 3) := by decide +kernel
theorem d_SL1_canEncode_11 : decode b_SL1_canEncode 11 = .ok (.iconst 1, 1) := by decide +kernel
theorem d_SL1_canEncode_12 : decode b_SL1_canEncode 12 = .ok (.goto 4, 3) := by decide +kernel
theorem d_SL1_canEncode_15 : decode b_SL1_canEncode 15 = .ok (.iconst 0, 1) := by decide +kernel
theorem d_SL1_canEncode_16 : decode b_SL1_canEncode 16 = .ok (.ireturn, 1) := by decide +kernel
def p_SL1_canEncode (n : Nat) (v0 : Int32)  : Option (Int32) := (if v0 < 0 then some 0 else (if 255 < v0 then some 0 else some 1) : Option (Int32)).bind fun x2 => if isZ x2 then some x2 else none
set_option maxHeartbeats 4000000 in
theorem c_SL1_canEncode (l : Launch) (n : Nat) (v0 : Int32)   : MSi l y_SL1_canEncode b_SL1_canEncode 1 .boolean (rL 1) [.int v0] (p_SL1_canEncode n v0 ) := by
  refine en_si (by decide) (Nat.le_of_ble_eq_true rfl) ?_
  intro z hf p e s m args below meth c ls hx hb hml hown hT hr hlk hl
  have hl : lv_has ls 1 [(0, .int v0)] := hl
  unfold p_SL1_canEncode at hf
  refine lv_iload_n hx hb d_SL1_canEncode_0 rfl (lv_at hl 0 rfl) ?_
  obtain ⟨x2, he, hf⟩ := op_bind hf
  have K1 : ∀ (ls : Array Slot), lv_has ls 1 [] → W p l e (rL 1) s m args below meth c s.heap [] 0 0 (MQ below (fun _ st oc t => oc = .returned (some (.int z)) ∧ t.heap = st.heap) args s 0 0 (fun _ => False)) (F0 m 16 ls [.int x2]) := by
    intro ls hl
    obtain ⟨h3, hf⟩ := op_if hf
    obtain rfl := op_i1 hf
    exact rt_si hx hb hr hlk (isZ_nar h3) d_SL1_canEncode_16
  have hf := he
  refine lv_if_lt (tgt := 15) hx hb d_SL1_canEncode_1 (by decide) (fun hc => ?_) (fun hc => ?_)
  · have hf := op_t hc hf
    refine lv_iconst (v := 0) hx hb d_SL1_canEncode_15 (by decide) ?_
    obtain rfl := op_i1 hf
    exact K1 ls (lv_sub hl [] rfl)
  · have hf := op_f hc hf
    refine lv_iload_n hx hb d_SL1_canEncode_4 rfl (lv_at hl 0 rfl) ?_
    refine lv_sipush (v := 255) hx hb d_SL1_canEncode_5 (by decide) ?_
    refine lv_icmp_gt (tgt := 15) hx hb d_SL1_canEncode_8 (by decide) (fun hc => ?_) (fun hc => ?_)
    · have hf := op_t hc hf
      refine lv_iconst (v := 0) hx hb d_SL1_canEncode_15 (by decide) ?_
      obtain rfl := op_i1 hf
      exact K1 ls (lv_sub hl [] rfl)
    · have hf := op_f hc hf
      refine lv_iconst (v := 1) hx hb d_SL1_canEncode_11 (by decide) ?_
      refine lv_goto (tgt := 16) hx hb d_SL1_canEncode_12 (by decide) ?_
      obtain rfl := op_i1 hf
      exact K1 ls (lv_sub hl [] rfl)
theorem hd_SL1_indexOfChar : y_SL1_indexOfChar.cls ≠ "java/lang/invoke/MethodHandle" ∧ y_SL1_indexOfChar.cls ≠ "java/lang/invoke/VarHandle" ∧ (parseMethodDescriptor y_SL1_indexOfChar.desc).map (fun d => d.parameters.length) = some 4 := by decide +kernel
theorem d_SL1_indexOfChar_0 : decode b_SL1_indexOfChar 0 = .ok (.iload_n 1, 1) := by decide +kernel
theorem d_SL1_indexOfChar_1 : decode b_SL1_indexOfChar 1 = .ok (.i2b, 1) := by decide +kernel
theorem d_SL1_indexOfChar_2 : decode b_SL1_indexOfChar 2 = .ok (.istore 4, 2) := by decide +kernel
theorem d_SL1_indexOfChar_4 : decode b_SL1_indexOfChar 4 = .ok (.iload_n 2, 1) := by decide +kernel
theorem d_SL1_indexOfChar_5 : decode b_SL1_indexOfChar 5 = .ok (.istore 5, 2) := by decide +kernel
theorem d_SL1_indexOfChar_7 : decode b_SL1_indexOfChar 7 = .ok (.iload 5, 2) := by decide +kernel
theorem d_SL1_indexOfChar_9 : decode b_SL1_indexOfChar 9 = .ok (.iload_n 3, 1) := by decide +kernel
theorem d_SL1_indexOfChar_10 : decode b_SL1_indexOfChar 10 = .ok (.if_icmp .ge 21, 3) := by decide +kernel
theorem d_SL1_indexOfChar_13 : decode b_SL1_indexOfChar 13 = .ok (.aload_n 0, 1) := by decide +kernel
theorem d_SL1_indexOfChar_14 : decode b_SL1_indexOfChar 14 = .ok (.iload 5, 2) := by decide +kernel
theorem d_SL1_indexOfChar_16 : decode b_SL1_indexOfChar 16 = .ok (.baload, 1) := by decide +kernel
theorem d_SL1_indexOfChar_17 : decode b_SL1_indexOfChar 17 = .ok (.iload 4, 2) := by decide +kernel
theorem d_SL1_indexOfChar_19 : decode b_SL1_indexOfChar 19 = .ok (.if_icmp .ne 6, 3) := by decide +kernel
theorem d_SL1_indexOfChar_22 : decode b_SL1_indexOfChar 22 = .ok (.iload 5, 2) := by decide +kernel
theorem d_SL1_indexOfChar_24 : decode b_SL1_indexOfChar 24 = .ok (.ireturn, 1) := by decide +kernel
theorem d_SL1_indexOfChar_25 : decode b_SL1_indexOfChar 25 = .ok (.iinc 5 1, 3) := by decide +kernel
theorem d_SL1_indexOfChar_28 : decode b_SL1_indexOfChar 28 = .ok (.goto (-21), 3) := by decide +kernel
theorem d_SL1_indexOfChar_31 : decode b_SL1_indexOfChar 31 = .ok (.iconst (-1), 1) := by decide +kernel
theorem d_SL1_indexOfChar_32 : decode b_SL1_indexOfChar 32 = .ok (.ireturn, 1) := by decide +kernel
def l_SL1_indexOfChar_7 (n : Nat) (v0 : Nat) (v3 : Int32) (v4 : Int32)  : Nat → Int32 → Option (Int32)
  | 0, _ => none
  | k + 1, v5 => (if v3 ≤ v5 then some (-1) else if ix v5 (lenS.getD v0 0) then (if (sCh v0 v5.toNatClampNeg) = v4 then some v5 else l_SL1_indexOfChar_7 n v0 v3 v4 k (v5 + 1)) else none)
set_option maxHeartbeats 4000000 in
theorem wl_SL1_indexOfChar_7  {p : Program} {l : Launch} {e : Env} {s : State} {m : MethodId} {args : Array Value} {below : List Frame} {meth : Method} {c : Code} (hx : p.tables.exec = Jvm.exec) (hb : c.code = b_SL1_indexOfChar) (hml : c.maxLocals = 6) (hown : s.vm.findClass "java/lang/StringLatin1" = some m.cls) (hT : ∀ w ∈ WT, w.before args s = true) (hr : meth.sig.returnType = some .int) (hlk : meth.locks = false) {adK adV : Nat → Nat} (hTS : tS adK adV (fun _ => False) s s.heap) (n : Nat) (v0 : Nat) (hv0 : v0 < 12) (v3 : Int32) (v4 : Int32)  : ∀ (k : Nat) (v5 : Int32) (z : Int32), l_SL1_indexOfChar_7 n v0 v3 v4 k v5 = some z → ∀ (ls : Array Slot), lv_has ls 6 [(0, .ref (adV v0)), (3, .int v3), (4, .int v4), (5, .int v5)] → W p l e (rL 1) s m args below meth c s.heap [] 0 0 (MQ below (fun _ st oc t => oc = .returned (some (.int z)) ∧ t.heap = st.heap) args s 0 0 (fun _ => False)) (F0 m 7 ls []) := by
  intro k
  induction k with
  | zero => intro v5 z hf; exact absurd hf (by unfold l_SL1_indexOfChar_7; exact fun h9 => by cases h9)
  | succ k ih =>
    intro v5 z hf ls hl
    unfold l_SL1_indexOfChar_7 at hf
    refine lv_iload hx hb d_SL1_indexOfChar_7 (lv_at hl 3 rfl) ?_
    refine lv_iload_n hx hb d_SL1_indexOfChar_9 rfl (lv_at hl 1 rfl) ?_
    refine lv_icmp_ge (tgt := 31) hx hb d_SL1_indexOfChar_10 (by decide) (fun hc => ?_) (fun hc => ?_)
    · have hf := op_t hc hf
      refine lv_iconst (v := (-1)) hx hb d_SL1_indexOfChar_31 (by decide) ?_
      obtain rfl := op_i1 hf
      exact rt_si hx hb hr hlk rfl d_SL1_indexOfChar_32
    · have hf := op_f hc hf
      refine lv_aload_n hx hb d_SL1_indexOfChar_13 rfl (lv_at hl 0 rfl) ?_
      refine lv_iload hx hb d_SL1_indexOfChar_14 (lv_at hl 3 rfl) ?_
      obtain ⟨h1, hf⟩ := op_if hf
      refine va_tb (v := .int (sCh v0 v5.toNatClampNeg)) hx hb (hTS.1.1 v0 hv0).2.2.2 va_S.rf h1 rfl d_SL1_indexOfChar_16 ?_
      refine lv_iload hx hb d_SL1_indexOfChar_17 (lv_at hl 2 rfl) ?_
      refine lv_icmp_ne (tgt := 25) hx hb d_SL1_indexOfChar_19 (by decide) (fun hc => ?_) (fun hc => ?_)
      · have hf := op_f hc hf
        refine lv_iinc (v := (v5 + 1)) (lv' := [(5, .int (v5 + 1)), (0, .ref (adV v0)), (3, .int v3), (4, .int v4)]) hx hb d_SL1_indexOfChar_25 hl (k := 3) rfl rfl (by decide) rfl (fun ls hl => ?_)
        refine lv_goto (tgt := 7) hx hb d_SL1_indexOfChar_28 (by decide) ?_
        exact ih (v5 + 1) _ hf ls (lv_sub hl [1, 2, 3, 0] rfl)
      · have hf := op_t hc hf
        refine lv_iload hx hb d_SL1_indexOfChar_22 (lv_at hl 3 rfl) ?_
        obtain rfl := op_i1 hf
        exact rt_si hx hb hr hlk rfl d_SL1_indexOfChar_24
def p_SL1_indexOfChar (n : Nat) (v0 : Nat) (v1 : Int32) (v2 : Int32) (v3 : Int32)  : Option (Int32) := l_SL1_indexOfChar_7 n v0 v3 (v1.toInt8.toInt32) n v2
set_option maxHeartbeats 4000000 in
theorem c_SL1_indexOfChar (l : Launch) (n : Nat) (adK adV : Nat → Nat) (v0 : Nat) (v1 : Int32) (v2 : Int32) (v3 : Int32)  (hv0 : v0 < 12) : MTi l y_SL1_indexOfChar b_SL1_indexOfChar 6 .int (rL 1) adK adV [.ref (adV v0), .int v1, .int v2, .int v3] (p_SL1_indexOfChar n v0 v1 v2 v3 ) := by
  refine en_ti (by decide) (Nat.le_of_ble_eq_true rfl) ?_
  intro z hf p e s m args below meth c ls hx hb hml hown hT hr hlk hTS hl
  have hl : lv_has ls 6 [(0, .ref (adV v0)), (1, .int v1), (2, .int v2), (3, .int v3)] := hl
  unfold p_SL1_indexOfChar at hf
  refine lv_iload_n hx hb d_SL1_indexOfChar_0 rfl (lv_at hl 1 rfl) ?_
  refine lv_i2b hx hb d_SL1_indexOfChar_1 rfl ?_
  refine lv_istore (lv' := [(4, .int (v1.toInt8.toInt32)), (0, .ref (adV v0)), (1, .int v1), (2, .int v2), (3, .int v3)]) hx hb d_SL1_indexOfChar_2 hl (by decide) rfl (fun ls hl => ?_)
  refine lv_iload_n hx hb d_SL1_indexOfChar_4 rfl (lv_at hl 3 rfl) ?_
  refine lv_istore (lv' := [(5, .int v2), (4, .int (v1.toInt8.toInt32)), (0, .ref (adV v0)), (1, .int v1), (2, .int v2), (3, .int v3)]) hx hb d_SL1_indexOfChar_5 hl (by decide) rfl (fun ls hl => ?_)
  exact wl_SL1_indexOfChar_7 hx hb hml hown hT hr hlk hTS n v0 hv0 v3 (v1.toInt8.toInt32) n v2 _ hf ls (lv_sub hl [2, 5, 1, 0] rfl)
theorem hd_SL1_indexOf : y_SL1_indexOf.cls ≠ "java/lang/invoke/MethodHandle" ∧ y_SL1_indexOf.cls ≠ "java/lang/invoke/VarHandle" ∧ (parseMethodDescriptor y_SL1_indexOf.desc).map (fun d => d.parameters.length) = some 4 := by decide +kernel
theorem d_SL1_indexOf_0 : decode b_SL1_indexOf 0 = .ok (.iload_n 1, 1) := by decide +kernel
theorem d_SL1_indexOf_1 : decode b_SL1_indexOf 1 = .ok (.invokestatic 88, 3) := by decide +kernel
theorem d_SL1_indexOf_4 : decode b_SL1_indexOf 4 = .ok (.ifCond .ne 5, 3) := by decide +kernel
theorem d_SL1_indexOf_7 : decode b_SL1_indexOf 7 = .ok (.iconst (-1), 1) := by decide +kernel
theorem d_SL1_indexOf_8 : decode b_SL1_indexOf 8 = .ok (.ireturn, 1) := by decide +kernel
theorem d_SL1_indexOf_9 : decode b_SL1_indexOf 9 = .ok (.iload_n 2, 1) := by decide +kernel
theorem d_SL1_indexOf_10 : decode b_SL1_indexOf 10 = .ok (.iconst 0, 1) := by decide +kernel
theorem d_SL1_indexOf_11 : decode b_SL1_indexOf 11 = .ok (.invokestatic 92, 3) := by decide +kernel
theorem d_SL1_indexOf_14 : decode b_SL1_indexOf 14 = .ok (.istore_n 2, 1) := by decide +kernel
theorem d_SL1_indexOf_15 : decode b_SL1_indexOf 15 = .ok (.iload_n 3, 1) := by decide +kernel
theorem d_SL1_indexOf_16 : decode b_SL1_indexOf 16 = .ok (.aload_n 0, 1) := by decide +kernel
theorem d_SL1_indexOf_17 : decode b_SL1_indexOf 17 = .ok (.arraylength, 1) := by decide +kernel
theorem d_SL1_indexOf_18 : decode b_SL1_indexOf 18 = .ok (.invokestatic 38, 3) := by decide +kernel
theorem d_SL1_indexOf_21 : decode b_SL1_indexOf 21 = .ok (.istore_n 3, 1) := by decide +kernel
theorem d_SL1_indexOf_22 : decode b_SL1_indexOf 22 = .ok (.iload_n 2, 1) := by decide +kernel
theorem d_SL1_indexOf_23 : decode b_SL1_indexOf 23 = .ok (.iload_n 3, 1) := by decide +kernel
theorem d_SL1_indexOf_24 : decode b_SL1_indexOf 24 = .ok (.if_icmp .lt 5, 3) := by decide +kernel
theorem d_SL1_indexOf_27 : decode b_SL1_indexOf 27 = .ok (.iconst (-1), 1) := by decide +kernel
theorem d_SL1_indexOf_28 : decode b_SL1_indexOf 28 = .ok (.ireturn, 1) := by decide +kernel
theorem d_SL1_indexOf_29 : decode b_SL1_indexOf 29 = .ok (.aload_n 0, 1) := by decide +kernel
theorem d_SL1_indexOf_30 : decode b_SL1_indexOf 30 = .ok (.iload_n 1, 1) := by decide +kernel
theorem d_SL1_indexOf_31 : decode b_SL1_indexOf 31 = .ok (.iload_n 2, 1) := by decide +kernel
theorem d_SL1_indexOf_32 : decode b_SL1_indexOf 32 = .ok (.iload_n 3, 1) := by decide +kernel
theorem d_SL1_indexOf_33 : decode b_SL1_indexOf 33 = .ok (.invokestatic 95, 3) := by decide +kernel
theorem d_SL1_indexOf_36 : decode b_SL1_indexOf 36 = .ok (.ireturn, 1) := by decide +kernel
def p_SL1_indexOf (n : Nat) (v0 : Nat) (v1 : Int32) (v2 : Int32) (v3 : Int32)  : Option (Int32) := (p_SL1_canEncode n v1).bind fun x2 => (if x2 = 0 then some (-1) else (if (jmax v2 0) < (jmin v3 (sLen v0)) then (p_SL1_indexOfChar n v0 v1 (jmax v2 0) (jmin v3 (sLen v0))).bind fun x4 => some x4 else some (-1)))
set_option maxHeartbeats 4000000 in
theorem c_SL1_indexOf (l : Launch) (n : Nat) (adK adV : Nat → Nat) (v0 : Nat) (v1 : Int32) (v2 : Int32) (v3 : Int32)  (hv0 : v0 < 12) : MTi l y_SL1_indexOf b_SL1_indexOf 4 .int (rL 2) adK adV [.ref (adV v0), .int v1, .int v2, .int v3] (p_SL1_indexOf n v0 v1 v2 v3 ) := by
  refine en_ti (by decide) (Nat.le_of_ble_eq_true rfl) ?_
  intro z hf p e s m args below meth c ls hx hb hml hown hT hr hlk hTS hl
  have hl : lv_has ls 4 [(0, .ref (adV v0)), (1, .int v1), (2, .int v2), (3, .int v3)] := hl
  unfold p_SL1_indexOf at hf
  refine lv_iload_n hx hb d_SL1_indexOf_0 rfl (lv_at hl 1 rfl) ?_
  obtain ⟨x2, hc1, hf⟩ := op_bind hf
  refine ks_i (rest := []) hx hb hml hown hT (c_SL1_canEncode l n v1 _ hc1) (cbW 1 hT cd_SL1_canEncode rfl rfl ini_SL1 ml_SL1_88 hd_SL1_canEncode ⟨Nat.le_of_ble_eq_true rfl, Nat.le_of_ble_eq_true rfl⟩) sm_SL1_canEncode rfl hl.1 rfl (Nat.le_of_ble_eq_true rfl) d_SL1_indexOf_1 ⟨Nat.zero_le _, Nat.zero_le _⟩ ?_
  refine lv_if_ne (tgt := 9) hx hb d_SL1_indexOf_4 (by decide) (fun hc => ?_) (fun hc => ?_)
  · have hf := op_f hc hf
    refine lv_iload_n hx hb d_SL1_indexOf_9 rfl (lv_at hl 2 rfl) ?_
    refine lv_iconst (v := 0) hx hb d_SL1_indexOf_10 (by decide) ?_
    refine k_jmax hx hb hml hown hl.1 (hT _ ml_SL1_92) hT d_SL1_indexOf_11 (Nat.le_of_ble_eq_true rfl) (Nat.le_of_ble_eq_true rfl) (Nat.le_of_ble_eq_true rfl) ⟨Nat.zero_le _, Nat.zero_le _⟩ ?_
    refine lv_istore_n (lv' := [(2, .int (jmax v2 0)), (0, .ref (adV v0)), (1, .int v1), (3, .int v3)]) hx hb d_SL1_indexOf_14 rfl hl (by decide) rfl (fun ls hl => ?_)
    refine lv_iload_n hx hb d_SL1_indexOf_15 rfl (lv_at hl 3 rfl) ?_
    refine lv_aload_n hx hb d_SL1_indexOf_16 rfl (lv_at hl 1 rfl) ?_
    refine va_tlen (v := sLen v0) hx hb (hTS.1.1 v0 hv0).2.2.2 va_S.rf rfl d_SL1_indexOf_17 ?_
    refine k_jmin hx hb hml hown hl.1 (hT _ ml_SL1_38) hT d_SL1_indexOf_18 (Nat.le_of_ble_eq_true rfl) (Nat.le_of_ble_eq_true rfl) (Nat.le_of_ble_eq_true rfl) ⟨Nat.zero_le _, Nat.zero_le _⟩ ?_
    refine lv_istore_n (lv' := [(3, .int (jmin v3 (sLen v0))), (2, .int (jmax v2 0)), (0, .ref (adV v0)), (1, .int v1)]) hx hb d_SL1_indexOf_21 rfl hl (by decide) rfl (fun ls hl => ?_)
    refine lv_iload_n hx hb d_SL1_indexOf_22 rfl (lv_at hl 1 rfl) ?_
    refine lv_iload_n hx hb d_SL1_indexOf_23 rfl (lv_at hl 0 rfl) ?_
    refine lv_icmp_lt (tgt := 29) hx hb d_SL1_indexOf_24 (by decide) (fun hc => ?_) (fun hc => ?_)
    · have hf := op_t hc hf
      refine lv_aload_n hx hb d_SL1_indexOf_29 rfl (lv_at hl 2 rfl) ?_
      refine lv_iload_n hx hb d_SL1_indexOf_30 rfl (lv_at hl 3 rfl) ?_
      refine lv_iload_n hx hb d_SL1_indexOf_31 rfl (lv_at hl 1 rfl) ?_
      refine lv_iload_n hx hb d_SL1_indexOf_32 rfl (lv_at hl 0 rfl) ?_
      obtain ⟨x4, hc3, hf⟩ := op_bind hf
      refine kt_s (rest := []) hx hb hml hown hT hTS (c_SL1_indexOfChar l n adK adV v0 v1 (jmax v2 0) (jmin v3 (sLen v0)) hv0 _ hc3) (cbW 4 hT cd_SL1_indexOfChar rfl rfl ini_SL1 ml_SL1_95 hd_SL1_indexOfChar ⟨Nat.le_of_ble_eq_true rfl, Nat.le_of_ble_eq_true rfl⟩) sm_SL1_indexOfChar rfl hl.1 rfl (Nat.le_of_ble_eq_true rfl) d_SL1_indexOf_33 ⟨Nat.zero_le _, Nat.zero_le _⟩ ?_
      obtain rfl := op_i1 hf
      exact rt_si hx hb hr hlk rfl d_SL1_indexOf_36
    · have hf := op_f hc hf
      refine lv_iconst (v := (-1)) hx hb d_SL1_indexOf_27 (by decide) ?_
      obtain rfl := op_i1 hf
      exact rt_si hx hb hr hlk rfl d_SL1_indexOf_28
  · have hf := op_t hc hf
    refine lv_iconst (v := (-1)) hx hb d_SL1_indexOf_7 (by decide) ?_
    obtain rfl := op_i1 hf
    exact rt_si hx hb hr hlk rfl d_SL1_indexOf_8
theorem hd_String_indexOf_o1 : y_String_indexOf_o1.cls ≠ "java/lang/invoke/MethodHandle" ∧ y_String_indexOf_o1.cls ≠ "java/lang/invoke/VarHandle" ∧ (parseMethodDescriptor y_String_indexOf_o1.desc).map (fun d => d.parameters.length) = some 2 := by decide +kernel
theorem d_String_indexOf_o1_0 : decode b_String_indexOf_o1 0 = .ok (.aload_n 0, 1) := by decide +kernel
theorem d_String_indexOf_o1_1 : decode b_String_indexOf_o1 1 = .ok (.invokevirtual 492, 3) := by decide +kernel
theorem d_String_indexOf_o1_4 : decode b_String_indexOf_o1 4 = .ok (.ifCond .eq 19, 3) := by decide +kernel
theorem d_String_indexOf_o1_7 : decode b_String_indexOf_o1 7 = .ok (.aload_n 0, 1) := by decide +kernel
theorem d_String_indexOf_o1_8 : decode b_String_indexOf_o1 8 = .ok (.getfield 9, 3) := by decide +kernel
theorem d_String_indexOf_o1_11 : decode b_String_indexOf_o1 11 = .ok (.iload_n 1, 1) := by decide +kernel
theorem d_String_indexOf_o1_12 : decode b_String_indexOf_o1 12 = .ok (.iload_n 2, 1) := by decide +kernel
theorem d_String_indexOf_o1_13 : decode b_String_indexOf_o1 13 = .ok (.aload_n 0, 1) := by decide +kernel
theorem d_String_indexOf_o1_14 : decode b_String_indexOf_o1 14 = .ok (.invokevirtual 505, 3) := by decide +kernel
theorem d_String_indexOf_o1_17 : decode b_String_indexOf_o1 17 = .ok (.invokestatic 637, 3) := by decide +kernel
theorem d_String_indexOf_o1_20 : decode b_String_indexOf_o1 20 = .ok (.goto 16, 3) := by decide +kernel
theorem d_String_indexOf_o1_23 : decode b_String_indexOf_o1 23 = .ok (.aload_n 0, 1) := by decide +kernel
theorem d_String_indexOf_o1_24 : decode b_String_indexOf_o1 24 = .ok (.getfield 9, 3) := by decide +kernel
theorem d_String_indexOf_o1_27 : decode b_String_indexOf_o1 27 = .ok (.iload_n 1, 1) := by decide +kernel
theorem d_String_indexOf_o1_28 : decode b_String_indexOf_o1 28 = .ok (.iload_n 2, 1) := by decide +kernel
theorem d_String_indexOf_o1_29 : decode b_String_indexOf_o1 29 = .ok (.aload_n 0, 1) := by decide +kernel
theorem d_String_indexOf_o1_30 : decode b_String_indexOf_o1 30 = .ok (.invokevirtual 505, 3) := by decide +kernel
theorem d_String_indexOf_o1_33 : decode b_String_indexOf_o1 33 = .ok (.invokestatic 640, 3) := by decide +kernel
theorem d_String_indexOf_o1_36 : decode b_String_indexOf_o1 36 = .ok (.ireturn, 1) := by decide +kernel
def p_String_indexOf_o1 (n : Nat) (v0 : Nat) (v1 : Int32) (v2 : Int32)  : Option (Int32) := (p_String_isLatin1 n v0).bind fun x2 => (if x2 = 0 then none else (p_String_length n v0).bind fun x6 => (p_SL1_indexOf n v0 v1 v2 x6).bind fun x8 => some x8 : Option (Int32)).bind fun x4 => some x4
set_option maxHeartbeats 4000000 in
theorem c_String_indexOf_o1 (l : Launch) (n : Nat) (adK adV : Nat → Nat) (v0 : Nat) (v1 : Int32) (v2 : Int32)  (hv0 : v0 < 12) : MTi l y_String_indexOf_o1 b_String_indexOf_o1 3 .int (rL 3) adK adV [.ref (adK v0), .int v1, .int v2] (p_String_indexOf_o1 n v0 v1 v2 ) := by
  refine en_ti (by decide) (Nat.le_of_ble_eq_true rfl) ?_
  intro z hf p e s m args below meth c ls hx hb hml hown hT hr hlk hTS hl
  have hl : lv_has ls 3 [(0, .ref (adK v0)), (1, .int v1), (2, .int v2)] := hl
  unfold p_String_indexOf_o1 at hf
  refine lv_aload_n hx hb d_String_indexOf_o1_0 rfl (lv_at hl 0 rfl) ?_
  obtain ⟨x2, hc1, hf⟩ := op_bind hf
  refine kt_v (i := v0) (rest := []) hx hb hml hown hT hTS hv0 (c_String_isLatin1 l n adK adV v0 hv0 _ hc1) (cbW 0 hT cd_String_isLatin1 rfl rfl ini_String ml_String_492 hd_String_isLatin1 ⟨Nat.le_of_ble_eq_true rfl, Nat.le_of_ble_eq_true rfl⟩) im_String_isLatin1 se_String_String_isLatin1__String_isLatin1 rfl hl.1 rfl (Nat.le_of_ble_eq_true rfl) d_String_indexOf_o1_1 ⟨Nat.zero_le _, Nat.zero_le _⟩ ?_
  obtain ⟨x4, he, hf⟩ := op_bind hf
  have K3 : ∀ (ls : Array Slot), lv_has ls 3 [] → W p l e (rL 3) s m args below meth c s.heap [] 0 0 (MQ below (fun _ st oc t => oc = .returned (some (.int z)) ∧ t.heap = st.heap) args s 0 0 (fun _ => False)) (F0 m 36 ls [.int x4]) := by
    intro ls hl
    obtain rfl := op_i1 hf
    exact rt_si hx hb hr hlk rfl d_String_indexOf_o1_36
  have hf := he
  refine lv_if_eq (tgt := 23) hx hb d_String_indexOf_o1_4 (by decide) (fun hc => ?_) (fun hc => ?_)
  · have hf := op_t hc hf
    cases hf
  · have hf := op_f hc hf
    refine lv_aload_n hx hb d_String_indexOf_o1_7 rfl (lv_at hl 0 rfl) ?_
    refine vk_getf hx hb (hTS.1.1 v0 hv0).2.2.1 va_S.rf hown (hT _ fl_String_9) (fun _ h9 => h9) d_String_indexOf_o1_8 ?_
    refine lv_iload_n hx hb d_String_indexOf_o1_11 rfl (lv_at hl 1 rfl) ?_
    refine lv_iload_n hx hb d_String_indexOf_o1_12 rfl (lv_at hl 2 rfl) ?_
    refine lv_aload_n hx hb d_String_indexOf_o1_13 rfl (lv_at hl 0 rfl) ?_
    obtain ⟨x6, hc5, hf⟩ := op_bind hf
    refine kt_v (i := v0) (rest := [.int v2, .int v1, .ref (adV v0)]) hx hb hml hown hT hTS hv0 (c_String_length l n adK adV v0 hv0 _ hc5) (cbW 0 hT cd_String_length rfl rfl ini_String ml_String_505 hd_String_length ⟨Nat.le_of_ble_eq_true rfl, Nat.le_of_ble_eq_true rfl⟩) im_String_length se_String_String_length__String_length rfl hl.1 rfl (Nat.le_of_ble_eq_true rfl) d_String_indexOf_o1_14 ⟨Nat.zero_le _, Nat.zero_le _⟩ ?_
    obtain ⟨x8, hc7, hf⟩ := op_bind hf
    refine kt_s (rest := []) hx hb hml hown hT hTS (c_SL1_indexOf l n adK adV v0 v1 v2 x6 hv0 _ hc7) (cbW 4 hT cd_SL1_indexOf rfl rfl ini_SL1 ml_String_637 hd_SL1_indexOf ⟨Nat.le_of_ble_eq_true rfl, Nat.le_of_ble_eq_true rfl⟩) sm_SL1_indexOf rfl hl.1 rfl (Nat.le_of_ble_eq_true rfl) d_String_indexOf_o1_17 ⟨Nat.zero_le _, Nat.zero_le _⟩ ?_
    refine lv_goto (tgt := 36) hx hb d_String_indexOf_o1_20 (by decide) ?_
    obtain rfl := op_i1 hf
    exact K3 ls (lv_sub hl [] rfl)
theorem hd_String_indexOf : y_String_indexOf.cls ≠ "java/lang/invoke/MethodHandle" ∧ y_String_indexOf.cls ≠ "java/lang/invoke/VarHandle" ∧ (parseMethodDescriptor y_String_indexOf.desc).map (fun d => d.parameters.length) = some 1 := by decide +kernel
theorem d_String_indexOf_0 : decode b_String_indexOf 0 = .ok (.aload_n 0, 1) := by decide +kernel
theorem d_String_indexOf_1 : decode b_String_indexOf 1 = .ok (.iload_n 1, 1) := by decide +kernel
theorem d_String_indexOf_2 : decode b_String_indexOf 2 = .ok (.iconst 0, 1) := by decide +kernel
theorem d_String_indexOf_3 : decode b_String_indexOf 3 = .ok (.invokevirtual 633, 3) := by decide +kernel
theorem d_String_indexOf_6 : decode b_String_indexOf 6 = .ok (.ireturn, 1) := by decide +kernel
def p_String_indexOf (n : Nat) (v0 : Nat) (v1 : Int32)  : Option (Int32) := (p_String_indexOf_o1 n v0 v1 0).bind fun x2 => some x2
set_option maxHeartbeats 4000000 in
theorem c_String_indexOf (l : Launch) (n : Nat) (adK adV : Nat → Nat) (v0 : Nat) (v1 : Int32)  (hv0 : v0 < 12) : MTi l y_String_indexOf b_String_indexOf 2 .int (rL 4) adK adV [.ref (adK v0), .int v1] (p_String_indexOf n v0 v1 ) := by
  refine en_ti (by decide) (Nat.le_of_ble_eq_true rfl) ?_
  intro z hf p e s m args below meth c ls hx hb hml hown hT hr hlk hTS hl
  have hl : lv_has ls 2 [(0, .ref (adK v0)), (1, .int v1)] := hl
  unfold p_String_indexOf at hf
  refine lv_aload_n hx hb d_String_indexOf_0 rfl (lv_at hl 0 rfl) ?_
  refine lv_iload_n hx hb d_String_indexOf_1 rfl (lv_at hl 1 rfl) ?_
  refine lv_iconst (v := 0) hx hb d_String_indexOf_2 (by decide) ?_
  obtain ⟨x2, hc1, hf⟩ := op_bind hf
  refine kt_v (i := v0) (rest := []) hx hb hml hown hT hTS hv0 (c_String_indexOf_o1 l n adK adV v0 v1 0 hv0 _ hc1) (cbW 2 hT cd_String_indexOf_o1 rfl rfl ini_String ml_String_633 hd_String_indexOf_o1 ⟨Nat.le_of_ble_eq_true rfl, Nat.le_of_ble_eq_true rfl⟩) im_String_indexOf_o1 se_String_String_indexOf_o1__String_indexOf_o1 rfl hl.1 rfl (Nat.le_of_ble_eq_true rfl) d_String_indexOf_3 ⟨Nat.zero_le _, Nat.zero_le _⟩ ?_
  obtain rfl := op_i1 hf
  exact rt_si hx hb hr hlk rfl d_String_indexOf_6
theorem hd_Integer_bitCount : y_Integer_bitCount.cls ≠ "java/lang/invoke/MethodHandle" ∧ y_Integer_bitCount.cls ≠ "java/lang/invoke/VarHandle" ∧ (parseMethodDescriptor y_Integer_bitCount.desc).map (fun d => d.parameters.length) = some 1 := by decide +kernel
theorem d_Integer_bitCount_0 : decode b_Integer_bitCount 0 = .ok (.iload_n 0, 1) := by decide +kernel
theorem d_Integer_bitCount_1 : decode b_Integer_bitCount 1 = .ok (.iload_n 0, 1) := by decide +kernel
theorem d_Integer_bitCount_2 : decode b_Integer_bitCount 2 = .ok (.iconst 1, 1) := by decide +kernel
theorem d_Integer_bitCount_3 : decode b_Integer_bitCount 3 = .ok (.iushr, 1) := by decide +kernel
theorem d_Integer_bitCount_4 : decode b_Integer_bitCount 4 = .ok (.ldc_w 265, 3) := by decide +kernel
theorem d_Integer_bitCount_7 : decode b_Integer_bitCount 7 = .ok (.iand, 1) := by decide +kernel
theorem d_Integer_bitCount_8 : decode b_Integer_bitCount 8 = .ok (.isub, 1) := by decide +kernel
theorem d_Integer_bitCount_9 : decode b_Integer_bitCount 9 = .ok (.istore_n 0, 1) := by decide +kernel
theorem d_Integer_bitCount_10 : decode b_Integer_bitCount 10 = .ok (.iload_n 0, 1) := by decide +kernel
theorem d_Integer_bitCount_11 : decode b_Integer_bitCount 11 = .ok (.ldc_w 266, 3) := by decide +kernel
theorem d_Integer_bitCount_14 : decode b_Integer_bitCount 14 = .ok (.iand, 1) := by decide +kernel
theorem d_Integer_bitCount_15 : decode b_Integer_bitCount 15 = .ok (.iload_n 0, 1) := by decide +kernel
theorem d_Integer_bitCount_16 : decode b_Integer_bitCount 16 = .ok (.iconst 2, 1) := by decide +kernel
theorem d_Integer_bitCount_17 : decode b_Integer_bitCount 17 = .ok (.iushr, 1) := by decide +kernel
theorem d_Integer_bitCount_18 : decode b_Integer_bitCount 18 = .ok (.ldc_w 266, 3) := by decide +kernel
theorem d_Integer_bitCount_21 : decode b_Integer_bitCount 21 = .ok (.iand, 1) := by decide +kernel
theorem d_Integer_bitCount_22 : decode b_Integer_bitCount 22 = .ok (.iadd, 1) := by decide +kernel
theorem d_Integer_bitCount_23 : decode b_Integer_bitCount 23 = .ok (.istore_n 0, 1) := by decide +kernel
theorem d_Integer_bitCount_24 : decode b_Integer_bitCount 24 = .ok (.iload_n 0, 1) := by decide +kernel
theorem d_Integer_bitCount_25 : decode b_Integer_bitCount 25 = .ok (.iload_n 0, 1) := by decide +kernel
theorem d_Integer_bitCount_26 : decode b_Integer_bitCount 26 = .ok (.iconst 4, 1) := by decide +kernel
theorem d_Integer_bitCount_27 : decode b_Integer_bitCount 27 = .ok (.iushr, 1) := by decide +kernel
theorem d_Integer_bitCount_28 : decode b_Integer_bitCount 28 = .ok (.iadd, 1) := by decide +kernel
theorem d_Integer_bitCount_29 : decode b_Integer_bitCount 29 = .ok (.ldc_w 267, 3) := by decide +kernel
theorem d_Integer_bitCount_32 : decode b_Integer_bitCount 32 = .ok (.iand, 1) := by decide +kernel
theorem d_Integer_bitCount_33 : decode b_Integer_bitCount 33 = .ok (.istore_n 0, 1) := by decide +kernel
theorem d_Integer_bitCount_34 : decode b_Integer_bitCount 34 = .ok (.iload_n 0, 1) := by decide +kernel
theorem d_Integer_bitCount_35 : decode b_Integer_bitCount 35 = .ok (.iload_n 0, 1) := by decide +kernel
theorem d_Integer_bitCount_36 : decode b_Integer_bitCount 36 = .ok (.bipush 8, 2) := by decide +kernel
theorem d_Integer_bitCount_38 : decode b_Integer_bitCount 38 = .ok (.iushr, 1) := by decide +kernel
theorem d_Integer_bitCount_39 : decode b_Integer_bitCount 39 = .ok (.iadd, 1) := by decide +kernel
theorem d_Integer_bitCount_40 : decode b_Integer_bitCount 40 = .ok (.istore_n 0, 1) := by decide +kernel
theorem d_Integer_bitCount_41 : decode b_Integer_bitCount 41 = .ok (.iload_n 0, 1) := by decide +kernel
theorem d_Integer_bitCount_42 : decode b_Integer_bitCount 42 = .ok (.iload_n 0, 1) := by decide +kernel
theorem d_Integer_bitCount_43 : decode b_Integer_bitCount 43 = .ok (.bipush 16, 2) := by decide +kernel
theorem d_Integer_bitCount_45 : decode b_Integer_bitCount 45 = .ok (.iushr, 1) := by decide +kernel
theorem d_Integer_bitCount_46 : decode b_Integer_bitCount 46 = .ok (.iadd, 1) := by decide +kernel
theorem d_Integer_bitCount_47 : decode b_Integer_bitCount 47 = .ok (.istore_n 0, 1) := by decide +kernel
theorem d_Integer_bitCount_48 : decode b_Integer_bitCount 48 = .ok (.iload_n 0, 1) := by decide +kernel
theorem d_Integer_bitCount_49 : decode b_Integer_bitCount 49 = .ok (.bipush 63, 2) := by decide +kernel
theorem d_Integer_bitCount_51 : decode b_Integer_bitCount 51 = .ok (.iand, 1) := by decide +kernel
theorem d_Integer_bitCount_52 : decode b_Integer_bitCount 52 = .ok (.ireturn, 1) := by decide +kernel
def p_Integer_bitCount (n : Nat) (v0 : Int32)  : Option (Int32) := some (((((((((v0 - (((v0.toUInt32 >>> ((1 : Int32).toUInt32 &&& Int32.toUInt32 31)).toInt32) &&& 1431655765)) &&& 858993459) + ((((v0 - (((v0.toUInt32 >>> ((1 : Int32).toUInt32 &&& Int32.toUInt32 31)).toInt32) &&& 1431655765)).toUInt32 >>> ((2 : Int32).toUInt32 &&& Int32.toUInt32 31)).toInt32) &&& 858993459)) + ((((((v0 - (((v0.toUInt32 >>> ((1 : Int32).toUInt32 &&& Int32.toUInt32 31)).toInt32) &&& 1431655765)) &&& 858993459) + ((((v0 - (((v0.toUInt32 >>> ((1 : Int32).toUInt32 &&& Int32.toUInt32 31)).toInt32) &&& 1431655765)).toUInt32 >>> ((2 : Int32).toUInt32 &&& Int32.toUInt32 31)).toInt32) &&& 858993459))).toUInt32 >>> ((4 : Int32).toUInt32 &&& Int32.toUInt32 31)).toInt32)) &&& 252645135) + ((((((((v0 - (((v0.toUInt32 >>> ((1 : Int32).toUInt32 &&& Int32.toUInt32 31)).toInt32) &&& 1431655765)) &&& 858993459) + ((((v0 - (((v0.toUInt32 >>> ((1 : Int32).toUInt32 &&& Int32.toUInt32 31)).toInt32) &&& 1431655765)).toUInt32 >>> ((2 : Int32).toUInt32 &&& Int32.toUInt32 31)).toInt32) &&& 858993459)) + ((((((v0 - (((v0.toUInt32 >>> ((1 : Int32).toUInt32 &&& Int32.toUInt32 31)).toInt32) &&& 1431655765)) &&& 858993459) + ((((v0 - (((v0.toUInt32 >>> ((1 : Int32).toUInt32 &&& Int32.toUInt32 31)).toInt32) &&& 1431655765)).toUInt32 >>> ((2 : Int32).toUInt32 &&& Int32.toUInt32 31)).toInt32) &&& 858993459))).toUInt32 >>> ((4 : Int32).toUInt32 &&& Int32.toUInt32 31)).toInt32)) &&& 252645135)).toUInt32 >>> ((8 : Int32).toUInt32 &&& Int32.toUInt32 31)).toInt32)) + (((((((((v0 - (((v0.toUInt32 >>> ((1 : Int32).toUInt32 &&& Int32.toUInt32 31)).toInt32) &&& 1431655765)) &&& 858993459) + ((((v0 - (((v0.toUInt32 >>> ((1 : Int32).toUInt32 &&& Int32.toUInt32 31)).toInt32) &&& 1431655765)).toUInt32 >>> ((2 : Int32).toUInt32 &&& Int32.toUInt32 31)).toInt32) &&& 858993459)) + ((((((v0 - (((v0.toUInt32 >>> ((1 : Int32).toUInt32 &&& Int32.toUInt32 31)).toInt32) &&& 1431655765)) &&& 858993459) + ((((v0 - (((v0.toUInt32 >>> ((1 : Int32).toUInt32 &&& Int32.toUInt32 31)).toInt32) &&& 1431655765)).toUInt32 >>> ((2 : Int32).toUInt32 &&& Int32.toUInt32 31)).toInt32) &&& 858993459))).toUInt32 >>> ((4 : Int32).toUInt32 &&& Int32.toUInt32 31)).toInt32)) &&& 252645135) + ((((((((v0 - (((v0.toUInt32 >>> ((1 : Int32).toUInt32 &&& Int32.toUInt32 31)).toInt32) &&& 1431655765)) &&& 858993459) + ((((v0 - (((v0.toUInt32 >>> ((1 : Int32).toUInt32 &&& Int32.toUInt32 31)).toInt32) &&& 1431655765)).toUInt32 >>> ((2 : Int32).toUInt32 &&& Int32.toUInt32 31)).toInt32) &&& 858993459)) + ((((((v0 - (((v0.toUInt32 >>> ((1 : Int32).toUInt32 &&& Int32.toUInt32 31)).toInt32) &&& 1431655765)) &&& 858993459) + ((((v0 - (((v0.toUInt32 >>> ((1 : Int32).toUInt32 &&& Int32.toUInt32 31)).toInt32) &&& 1431655765)).toUInt32 >>> ((2 : Int32).toUInt32 &&& Int32.toUInt32 31)).toInt32) &&& 858993459))).toUInt32 >>> ((4 : Int32).toUInt32 &&& Int32.toUInt32 31)).toInt32)) &&& 252645135)).toUInt32 >>> ((8 : Int32).toUInt32 &&& Int32.toUInt32 31)).toInt32))).toUInt32 >>> ((16 : Int32).toUInt32 &&& Int32.toUInt32 31)).toInt32)) &&& 63))
set_option maxHeartbeats 4000000 in
theorem c_Integer_bitCount (l : Launch) (n : Nat) (v0 : Int32)   : MSi l y_Integer_bitCount b_Integer_bitCount 1 .int (rL 1) [.int v0] (p_Integer_bitCount n v0 ) := by
  refine en_si (by decide) (Nat.le_of_ble_eq_true rfl) ?_
  intro z hf p e s m args below meth c ls hx hb hml hown hT hr hlk hl
  have hl : lv_has ls 1 [(0, .int v0)] := hl
  unfold p_Integer_bitCount at hf
  refine lv_iload_n hx hb d_Integer_bitCount_0 rfl (lv_at hl 0 rfl) ?_
  refine lv_iload_n hx hb d_Integer_bitCount_1 rfl (lv_at hl 0 rfl) ?_
  refine lv_iconst (v := 1) hx hb d_Integer_bitCount_2 (by decide) ?_
  refine lv_iushr hx hb d_Integer_bitCount_3 rfl ?_
  refine lv_ldcw (v := 1431655765) hx hb hown (hT _ ko_Integer_265) d_Integer_bitCount_4 ?_
  refine lv_iand hx hb d_Integer_bitCount_7 ?_
  refine lv_isub hx hb d_Integer_bitCount_8 ?_
  refine lv_istore_n (lv' := [(0, .int (v0 - (((v0.toUInt32 >>> ((1 : Int32).toUInt32 &&& Int32.toUInt32 31)).toInt32) &&& 1431655765)))]) hx hb d_Integer_bitCount_9 rfl hl (by decide) rfl (fun ls hl => ?_)
  refine lv_iload_n hx hb d_Integer_bitCount_10 rfl (lv_at hl 0 rfl) ?_
  refine lv_ldcw (v := 858993459) hx hb hown (hT _ ko_Integer_266) d_Integer_bitCount_11 ?_
  refine lv_iand hx hb d_Integer_bitCount_14 ?_
  refine lv_iload_n hx hb d_Integer_bitCount_15 rfl (lv_at hl 0 rfl) ?_
  refine lv_iconst (v := 2) hx hb d_Integer_bitCount_16 (by decide) ?_
  refine lv_iushr hx hb d_Integer_bitCount_17 rfl ?_
  refine lv_ldcw (v := 858993459) hx hb hown (hT _ ko_Integer_266) d_Integer_bitCount_18 ?_
  refine lv_iand hx hb d_Integer_bitCount_21 ?_
  refine lv_iadd hx hb d_Integer_bitCount_22 ?_
  refine lv_istore_n (lv' := [(0, .int (((v0 - (((v0.toUInt32 >>> ((1 : Int32).toUInt32 &&& Int32.toUInt32 31)).toInt32) &&& 1431655765)) &&& 858993459) + ((((v0 - (((v0.toUInt32 >>> ((1 : Int32).toUInt32 &&& Int32.toUInt32 31)).toInt32) &&& 1431655765)).toUInt32 >>> ((2 : Int32).toUInt32 &&& Int32.toUInt32 31)).toInt32) &&& 858993459)))]) hx hb d_Integer_bitCount_23 rfl hl (by decide) rfl (fun ls hl => ?_)
  refine lv_iload_n hx hb d_Integer_bitCount_24 rfl (lv_at hl 0 rfl) ?_
  refine lv_iload_n hx hb d_Integer_bitCount_25 rfl (lv_at hl 0 rfl) ?_
  refine lv_iconst (v := 4) hx hb d_Integer_bitCount_26 (by decide) ?_
  refine lv_iushr hx hb d_Integer_bitCount_27 rfl ?_
  refine lv_iadd hx hb d_Integer_bitCount_28 ?_
  refine lv_ldcw (v := 252645135) hx hb hown (hT _ ko_Integer_267) d_Integer_bitCount_29 ?_
  refine lv_iand hx hb d_Integer_bitCount_32 ?_
  refine lv_istore_n (lv' := [(0, .int (((((v0 - (((v0.toUInt32 >>> ((1 : Int32).toUInt32 &&& Int32.toUInt32 31)).toInt32) &&& 1431655765)) &&& 858993459) + ((((v0 - (((v0.toUInt32 >>> ((1 : Int32).toUInt32 &&& Int32.toUInt32 31)).toInt32) &&& 1431655765)).toUInt32 >>> ((2 : Int32).toUInt32 &&& Int32.toUInt32 31)).toInt32) &&& 858993459)) + ((((((v0 - (((v0.toUInt32 >>> ((1 : Int32).toUInt32 &&& Int32.toUInt32 31)).toInt32) &&& 1431655765)) &&& 858993459) + ((((v0 - (((v0.toUInt32 >>> ((1 : Int32).toUInt32 &&& Int32.toUInt32 31)).toInt32) &&& 1431655765)).toUInt32 >>> ((2 : Int32).toUInt32 &&& Int32.toUInt32 31)).toInt32) &&& 858993459))).toUInt32 >>> ((4 : Int32).toUInt32 &&& Int32.toUInt32 31)).toInt32)) &&& 252645135))]) hx hb d_Integer_bitCount_33 rfl hl (by decide) rfl (fun ls hl => ?_)
  refine lv_iload_n hx hb d_Integer_bitCount_34 rfl (lv_at hl 0 rfl) ?_
  refine lv_iload_n hx hb d_Integer_bitCount_35 rfl (lv_at hl 0 rfl) ?_
  refine lv_bipush (v := 8) hx hb d_Integer_bitCount_36 (by decide) ?_
  refine lv_iushr hx hb d_Integer_bitCount_38 rfl ?_
  refine lv_iadd hx hb d_Integer_bitCount_39 ?_
  refine lv_istore_n (lv' := [(0, .int ((((((v0 - (((v0.toUInt32 >>> ((1 : Int32).toUInt32 &&& Int32.toUInt32 31)).toInt32) &&& 1431655765)) &&& 858993459) + ((((v0 - (((v0.toUInt32 >>> ((1 : Int32).toUInt32 &&& Int32.toUInt32 31)).toInt32) &&& 1431655765)).toUInt32 >>> ((2 : Int32).toUInt32 &&& Int32.toUInt32 31)).toInt32) &&& 858993459)) + ((((((v0 - (((v0.toUInt32 >>> ((1 : Int32).toUInt32 &&& Int32.toUInt32 31)).toInt32) &&& 1431655765)) &&& 858993459) + ((((v0 - (((v0.toUInt32 >>> ((1 : Int32).toUInt32 &&& Int32.toUInt32 31)).toInt32) &&& 1431655765)).toUInt32 >>> ((2 : Int32).toUInt32 &&& Int32.toUInt32 31)).toInt32) &&& 858993459))).toUInt32 >>> ((4 : Int32).toUInt32 &&& Int32.toUInt32 31)).toInt32)) &&& 252645135) + ((((((((v0 - (((v0.toUInt32 >>> ((1 : Int32).toUInt32 &&& Int32.toUInt32 31)).toInt32) &&& 1431655765)) &&& 858993459) + ((((v0 - (((v0.toUInt32 >>> ((1 : Int32).toUInt32 &&& Int32.toUInt32 31)).toInt32) &&& 1431655765)).toUInt32 >>> ((2 : Int32).toUInt32 &&& Int32.toUInt32 31)).toInt32) &&& 858993459)) + ((((((v0 - (((v0.toUInt32 >>> ((1 : Int32).toUInt32 &&& Int32.toUInt32 31)).toInt32) &&& 1431655765)) &&& 858993459) + ((((v0 - (((v0.toUInt32 >>> ((1 : Int32).toUInt32 &&& Int32.toUInt32 31)).toInt32) &&& 1431655765)).toUInt32 >>> ((2 : Int32).toUInt32 &&& Int32.toUInt32 31)).toInt32) &&& 858993459))).toUInt32 >>> ((4 : Int32).toUInt32 &&& Int32.toUInt32 31)).toInt32)) &&& 252645135)).toUInt32 >>> ((8 : Int32).toUInt32 &&& Int32.toUInt32 31)).toInt32)))]) hx hb d_Integer_bitCount_40 rfl hl (by decide) rfl (fun ls hl => ?_)
  refine lv_iload_n hx hb d_Integer_bitCount_41 rfl (lv_at hl 0 rfl) ?_
  refine lv_iload_n hx hb d_Integer_bitCount_42 rfl (lv_at hl 0 rfl) ?_
  refine lv_bipush (v := 16) hx hb d_Integer_bitCount_43 (by decide) ?_
  refine lv_iushr hx hb d_Integer_bitCount_45 rfl ?_
  refine lv_iadd hx hb d_Integer_bitCount_46 ?_
  refine lv_istore_n (lv' := [(0, .int (((((((v0 - (((v0.toUInt32 >>> ((1 : Int32).toUInt32 &&& Int32.toUInt32 31)).toInt32) &&& 1431655765)) &&& 858993459) + ((((v0 - (((v0.toUInt32 >>> ((1 : Int32).toUInt32 &&& Int32.toUInt32 31)).toInt32) &&& 1431655765)).toUInt32 >>> ((2 : Int32).toUInt32 &&& Int32.toUInt32 31)).toInt32) &&& 858993459)) + ((((((v0 - (((v0.toUInt32 >>> ((1 : Int32).toUInt32 &&& Int32.toUInt32 31)).toInt32) &&& 1431655765)) &&& 858993459) + ((((v0 - (((v0.toUInt32 >>> ((1 : Int32).toUInt32 &&& Int32.toUInt32 31)).toInt32) &&& 1431655765)).toUInt32 >>> ((2 : Int32).toUInt32 &&& Int32.toUInt32 31)).toInt32) &&& 858993459))).toUInt32 >>> ((4 : Int32).toUInt32 &&& Int32.toUInt32 31)).toInt32)) &&& 252645135) + ((((((((v0 - (((v0.toUInt32 >>> ((1 : Int32).toUInt32 &&& Int32.toUInt32 31)).toInt32) &&& 1431655765)) &&& 858993459) + ((((v0 - (((v0.toUInt32 >>> ((1 : Int32).toUInt32 &&& Int32.toUInt32 31)).toInt32) &&& 1431655765)).toUInt32 >>> ((2 : Int32).toUInt32 &&& Int32.toUInt32 31)).toInt32) &&& 858993459)) + ((((((v0 - (((v0.toUInt32 >>> ((1 : Int32).toUInt32 &&& Int32.toUInt32 31)).toInt32) &&& 1431655765)) &&& 858993459) + ((((v0 - (((v0.toUInt32 >>> ((1 : Int32).toUInt32 &&& Int32.toUInt32 31)).toInt32) &&& 1431655765)).toUInt32 >>> ((2 : Int32).toUInt32 &&& Int32.toUInt32 31)).toInt32) &&& 858993459))).toUInt32 >>> ((4 : Int32).toUInt32 &&& Int32.toUInt32 31)).toInt32)) &&& 252645135)).toUInt32 >>> ((8 : Int32).toUInt32 &&& Int32.toUInt32 31)).toInt32)) + (((((((((v0 - (((v0.toUInt32 >>> ((1 : Int32).toUInt32 &&& Int32.toUInt32 31)).toInt32) &&& 1431655765)) &&& 858993459) + ((((v0 - (((v0.toUInt32 >>> ((1 : Int32).toUInt32 &&& Int32.toUInt32 31)).toInt32) &&& 1431655765)).toUInt32 >>> ((2 : Int32).toUInt32 &&& Int32.toUInt32 31)).toInt32) &&& 858993459)) + ((((((v0 - (((v0.toUInt32 >>> ((1 : Int32).toUInt32 &&& Int32.toUInt32 31)).toInt32) &&& 1431655765)) &&& 858993459) + ((((v0 - (((v0.toUInt32 >>> ((1 : Int32).toUInt32 &&& Int32.toUInt32 31)).toInt32) &&& 1431655765)).toUInt32 >>> ((2 : Int32).toUInt32 &&& Int32.toUInt32 31)).toInt32) &&& 858993459))).toUInt32 >>> ((4 : Int32).toUInt32 &&& Int32.toUInt32 31)).toInt32)) &&& 252645135) + ((((((((v0 - (((v0.toUInt32 >>> ((1 : Int32).toUInt32 &&& Int32.toUInt32 31)).toInt32) &&& 1431655765)) &&& 858993459) + ((((v0 - (((v0.toUInt32 >>> ((1 : Int32).toUInt32 &&& Int32.toUInt32 31)).toInt32) &&& 1431655765)).toUInt32 >>> ((2 : Int32).toUInt32 &&& Int32.toUInt32 31)).toInt32) &&& 858993459)) + ((((((v0 - (((v0.toUInt32 >>> ((1 : Int32).toUInt32 &&& Int32.toUInt32 31)).toInt32) &&& 1431655765)) &&& 858993459) + ((((v0 - (((v0.toUInt32 >>> ((1 : Int32).toUInt32 &&& Int32.toUInt32 31)).toInt32) &&& 1431655765)).toUInt32 >>> ((2 : Int32).toUInt32 &&& Int32.toUInt32 31)).toInt32) &&& 858993459))).toUInt32 >>> ((4 : Int32).toUInt32 &&& Int32.toUInt32 31)).toInt32)) &&& 252645135)).toUInt32 >>> ((8 : Int32).toUInt32 &&& Int32.toUInt32 31)).toInt32))).toUInt32 >>> ((16 : Int32).toUInt32 &&& Int32.toUInt32 31)).toInt32)))]) hx hb d_Integer_bitCount_47 rfl hl (by decide) rfl (fun ls hl => ?_)
  refine lv_iload_n hx hb d_Integer_bitCount_48 rfl (lv_at hl 0 rfl) ?_
  refine lv_bipush (v := 63) hx hb d_Integer_bitCount_49 (by decide) ?_
  refine lv_iand hx hb d_Integer_bitCount_51 ?_
  obtain rfl := op_i1 hf
  exact rt_si hx hb hr hlk rfl d_Integer_bitCount_52
