theorem hd_Se_placeBehind : y_Se_placeBehind.cls ≠ "java/lang/invoke/MethodHandle" ∧ y_Se_placeBehind.cls ≠ "java/lang/invoke/VarHandle" ∧ (parseMethodDescriptor y_Se_placeBehind.desc).map (fun d => d.parameters.length) = some 2 := by decide +kernel
theorem d_Se_placeBehind_0 : decode b_Se_placeBehind 0 = .ok (.iload_n 0, 1) := by decide +kernel
theorem d_Se_placeBehind_1 : decode b_Se_placeBehind 1 = .ok (.iload_n 1, 1) := by decide +kernel
theorem d_Se_placeBehind_2 : decode b_Se_placeBehind 2 = .ok (.iconst 1, 1) := by decide +kernel
theorem d_Se_placeBehind_3 : decode b_Se_placeBehind 3 = .ok (.ishl, 1) := by decide +kernel
theorem d_Se_placeBehind_4 : decode b_Se_placeBehind 4 = .ok (.ixor, 1) := by decide +kernel
theorem d_Se_placeBehind_5 : decode b_Se_placeBehind 5 = .ok (.iconst 1, 1) := by decide +kernel
theorem d_Se_placeBehind_6 : decode b_Se_placeBehind 6 = .ok (.ixor, 1) := by decide +kernel
theorem d_Se_placeBehind_7 : decode b_Se_placeBehind 7 = .ok (.bipush 127, 2) := by decide +kernel
theorem d_Se_placeBehind_9 : decode b_Se_placeBehind 9 = .ok (.iand, 1) := by decide +kernel
theorem d_Se_placeBehind_10 : decode b_Se_placeBehind 10 = .ok (.ireturn, 1) := by decide +kernel
def p_Se_placeBehind (n : Nat) (v0 : Int32) (v1 : Int32)  : Option (Int32) := some (((v0 ^^^ (v1 <<< (1 &&& 31))) ^^^ 1) &&& 127)
set_option maxHeartbeats 4000000 in
theorem c_Se_placeBehind (l : Launch) (n : Nat) (v0 : Int32) (v1 : Int32)   : MSi l y_Se_placeBehind b_Se_placeBehind 2 .int (rL 5) [.int v0, .int v1] (p_Se_placeBehind n v0 v1 ) := by
  refine en_si (by decide) (Nat.le_of_ble_eq_true rfl) ?_
  intro z hf p e s m args below meth c ls hx hb hml hown hT hr hlk hl
  have hl : lv_has ls 2 [(0, .int v0), (1, .int v1)] := hl
  unfold p_Se_placeBehind at hf
  refine lv_iload_n hx hb d_Se_placeBehind_0 rfl (lv_at hl 0 rfl) ?_
  refine lv_iload_n hx hb d_Se_placeBehind_1 rfl (lv_at hl 1 rfl) ?_
  refine lv_iconst (v := 1) hx hb d_Se_placeBehind_2 (by decide) ?_
  refine lv_ishl hx hb d_Se_placeBehind_3 ?_
  refine lv_ixor hx hb d_Se_placeBehind_4 ?_
  refine lv_iconst (v := 1) hx hb d_Se_placeBehind_5 (by decide) ?_
  refine lv_ixor hx hb d_Se_placeBehind_6 ?_
  refine lv_bipush (v := 127) hx hb d_Se_placeBehind_7 (by decide) ?_
  refine lv_iand hx hb d_Se_placeBehind_9 ?_
  obtain rfl := op_i1 hf
  exact rt_si hx hb hr hlk rfl d_Se_placeBehind_10
theorem hd_Se_bankWithLantern : y_Se_bankWithLantern.cls ≠ "java/lang/invoke/MethodHandle" ∧ y_Se_bankWithLantern.cls ≠ "java/lang/invoke/VarHandle" ∧ (parseMethodDescriptor y_Se_bankWithLantern.desc).map (fun d => d.parameters.length) = some 1 := by decide +kernel
theorem d_Se_bankWithLantern_0 : decode b_Se_bankWithLantern 0 = .ok (.iload_n 1, 1) := by decide +kernel
theorem d_Se_bankWithLantern_1 : decode b_Se_bankWithLantern 1 = .ok (.iconst 1, 1) := by decide +kernel
theorem d_Se_bankWithLantern_2 : decode b_Se_bankWithLantern 2 = .ok (.ishr, 1) := by decide +kernel
theorem d_Se_bankWithLantern_3 : decode b_Se_bankWithLantern 3 = .ok (.istore_n 2, 1) := by decide +kernel
theorem d_Se_bankWithLantern_4 : decode b_Se_bankWithLantern 4 = .ok (.iload_n 1, 1) := by decide +kernel
theorem d_Se_bankWithLantern_5 : decode b_Se_bankWithLantern 5 = .ok (.iconst 1, 1) := by decide +kernel
theorem d_Se_bankWithLantern_6 : decode b_Se_bankWithLantern 6 = .ok (.iand, 1) := by decide +kernel
theorem d_Se_bankWithLantern_7 : decode b_Se_bankWithLantern 7 = .ok (.iconst 1, 1) := by decide +kernel
theorem d_Se_bankWithLantern_8 : decode b_Se_bankWithLantern 8 = .ok (.if_icmp .ne 7, 3) := by decide +kernel
theorem d_Se_bankWithLantern_11 : decode b_Se_bankWithLantern 11 = .ok (.iload_n 2, 1) := by decide +kernel
theorem d_Se_bankWithLantern_12 : decode b_Se_bankWithLantern 12 = .ok (.goto 14, 3) := by decide +kernel
theorem d_Se_bankWithLantern_15 : decode b_Se_bankWithLantern 15 = .ok (.aload_n 0, 1) := by decide +kernel
theorem d_Se_bankWithLantern_16 : decode b_Se_bankWithLantern 16 = .ok (.getfield 19, 3) := by decide +kernel
theorem d_Se_bankWithLantern_19 : decode b_Se_bankWithLantern 19 = .ok (.invokevirtual 35, 3) := by decide +kernel
theorem d_Se_bankWithLantern_22 : decode b_Se_bankWithLantern 22 = .ok (.iload_n 2, 1) := by decide +kernel
theorem d_Se_bankWithLantern_23 : decode b_Se_bankWithLantern 23 = .ok (.iconst (-1), 1) := by decide +kernel
theorem d_Se_bankWithLantern_24 : decode b_Se_bankWithLantern 24 = .ok (.ixor, 1) := by decide +kernel
theorem d_Se_bankWithLantern_25 : decode b_Se_bankWithLantern 25 = .ok (.iand, 1) := by decide +kernel
theorem d_Se_bankWithLantern_26 : decode b_Se_bankWithLantern 26 = .ok (.ireturn, 1) := by decide +kernel
def p_Se_bankWithLantern (n : Nat) (E : PE) (F : Nat → Nat → Int32) (G : Nat → Nat → Int32) (P : Nat → Nat → Option Nat) (N : Nat → Nat) (v1 : Int32)  : Option (Int32) := (if (v1 &&& 1) = 1 then some (v1 >>> (1 &&& 31)) else (p_Go_everybody n E F G P N ).bind fun x4 => some (x4 &&& ((v1 >>> (1 &&& 31)) ^^^ (-1))) : Option (Int32)).bind fun x2 => some x2
set_option maxHeartbeats 4000000 in
theorem c_Se_bankWithLantern (l : Launch) (n : Nat) (E : PE) (F : Nat → Nat → Int32) (G : Nat → Nat → Int32) (P : Nat → Nat → Option Nat) (N : Nat → Nat) (dC : Nat → ClassId) (dI : Nat → Nat → Nat) (ad : Nat → Nat) (cI cZ cW cJ : ClassId) (v1 : Int32)   : ROi l y_Se_bankWithLantern b_Se_bankWithLantern 3 (.int) (rL 6) (cB dC dI ad cI cZ cW cJ E F G P N) [.ref (ad 4), .int v1] (p_Se_bankWithLantern n E F G P N v1 ) := by
  refine en_roi (by decide) (Nat.le_of_ble_eq_true rfl) ?_
  intro z hf p e s m args below meth c ls hx hb hml hown hT hr hlk hB hl
  obtain ⟨hK, hP, hp, hi⟩ := hB
  have hl : lv_has ls 3 [(0, .ref (ad 4)), (1, .int v1)] := hl
  unfold p_Se_bankWithLantern at hf
  refine lv_iload_n hx hb d_Se_bankWithLantern_0 rfl (lv_at hl 1 rfl) ?_
  refine lv_iconst (v := 1) hx hb d_Se_bankWithLantern_1 (by decide) ?_
  refine lv_ishr hx hb d_Se_bankWithLantern_2 ?_
  refine lv_istore_n (lv' := [(2, .int (v1 >>> (1 &&& 31))), (0, .ref (ad 4)), (1, .int v1)]) hx hb d_Se_bankWithLantern_3 rfl hl (by decide) rfl (fun ls hl => ?_)
  refine lv_iload_n hx hb d_Se_bankWithLantern_4 rfl (lv_at hl 2 rfl) ?_
  refine lv_iconst (v := 1) hx hb d_Se_bankWithLantern_5 (by decide) ?_
  refine lv_iand hx hb d_Se_bankWithLantern_6 ?_
  refine lv_iconst (v := 1) hx hb d_Se_bankWithLantern_7 (by decide) ?_
  obtain ⟨x2, he, hf⟩ := op_bind hf
  have K1 : ∀ (ls : Array Slot), lv_has ls 3 [] → W p l e (rL 6) s m args below meth c s.heap [] 0 0 (MQ below (fun _ st oc t => oc = .returned (some (.int z)) ∧ t.heap = st.heap) args s 0 0 (fun _ => False)) (F0 m 26 ls [.int x2]) := by
    intro ls hl
    obtain rfl := op_i1 hf
    exact rt_si hx hb hr hlk rfl d_Se_bankWithLantern_26
  have hf := he
  refine lv_icmp_ne (tgt := 15) hx hb d_Se_bankWithLantern_8 (by decide) (fun hc => ?_) (fun hc => ?_)
  · have hf := op_f hc hf
    refine lv_aload_n hx hb d_Se_bankWithLantern_15 rfl (lv_at hl 1 rfl) ?_
    refine cg_4_0 hx hb hT hown hK hP fl_Se_19 d_Se_bankWithLantern_16 ?_
    obtain ⟨x4, hc3, hf⟩ := op_bind hf
    refine kr_i (C := R_Go) (b0 := ad 3) (rest := []) hx hb hml hown hT cB_bl (cB_to hK hP hp hi) (va_recv hK hP (ci := 1) (q0 := 3) rfl rfl) (c_Go_everybody l n E F G P N dC dI ad cI cZ cW cJ  _ hc3) (cbW 0 hT cd_Go_everybody rfl rfl ini_Go ml_Se_35 hd_Go_everybody ⟨Nat.le_of_ble_eq_true rfl, Nat.le_of_ble_eq_true rfl⟩) im_Go_everybody se_Go_Go_everybody__Go_everybody rfl hl.1 rfl (Nat.le_of_ble_eq_true rfl) d_Se_bankWithLantern_19 ⟨Nat.zero_le _, Nat.zero_le _⟩ ?_
    refine lv_iload_n hx hb d_Se_bankWithLantern_22 rfl (lv_at hl 0 rfl) ?_
    refine lv_iconst (v := (-1)) hx hb d_Se_bankWithLantern_23 (by decide) ?_
    refine lv_ixor hx hb d_Se_bankWithLantern_24 ?_
    refine lv_iand hx hb d_Se_bankWithLantern_25 ?_
    obtain rfl := op_i1 hf
    exact K1 ls (lv_sub hl [] rfl)
  · have hf := op_t hc hf
    refine lv_iload_n hx hb d_Se_bankWithLantern_11 rfl (lv_at hl 0 rfl) ?_
    refine lv_goto (tgt := 26) hx hb d_Se_bankWithLantern_12 (by decide) ?_
    obtain rfl := op_i1 hf
    exact K1 ls (lv_sub hl [] rfl)
theorem hd_Se_measureAt : y_Se_measureAt.cls ≠ "java/lang/invoke/MethodHandle" ∧ y_Se_measureAt.cls ≠ "java/lang/invoke/VarHandle" ∧ (parseMethodDescriptor y_Se_measureAt.desc).map (fun d => d.parameters.length) = some 1 := by decide +kernel
theorem d_Se_measureAt_0 : decode b_Se_measureAt 0 = .ok (.iload_n 1, 1) := by decide +kernel
theorem d_Se_measureAt_1 : decode b_Se_measureAt 1 = .ok (.ifCond .lt 21, 3) := by decide +kernel
theorem d_Se_measureAt_4 : decode b_Se_measureAt 4 = .ok (.iload_n 1, 1) := by decide +kernel
theorem d_Se_measureAt_5 : decode b_Se_measureAt 5 = .ok (.sipush 128, 3) := by decide +kernel
theorem d_Se_measureAt_8 : decode b_Se_measureAt 8 = .ok (.if_icmp .ge 14, 3) := by decide +kernel
theorem d_Se_measureAt_11 : decode b_Se_measureAt 11 = .ok (.aload_n 0, 1) := by decide +kernel
theorem d_Se_measureAt_12 : decode b_Se_measureAt 12 = .ok (.getfield 11, 3) := by decide +kernel
theorem d_Se_measureAt_15 : decode b_Se_measureAt 15 = .ok (.iload_n 1, 1) := by decide +kernel
theorem d_Se_measureAt_16 : decode b_Se_measureAt 16 = .ok (.iaload, 1) := by decide +kernel
theorem d_Se_measureAt_17 : decode b_Se_measureAt 17 = .ok (.ldc 23, 2) := by decide +kernel
theorem d_Se_measureAt_19 : decode b_Se_measureAt 19 = .ok (.if_icmp .ne 6, 3) := by decide +kernel
theorem d_Se_measureAt_22 : decode b_Se_measureAt 22 = .ok (.bipush (-5), 2) := by decide +kernel
theorem d_Se_measureAt_24 : decode b_Se_measureAt 24 = .ok (.ireturn, 1) := by decide +kernel
theorem d_Se_measureAt_25 : decode b_Se_measureAt 25 = .ok (.aload_n 0, 1) := by decide +kernel
theorem d_Se_measureAt_26 : decode b_Se_measureAt 26 = .ok (.getfield 11, 3) := by decide +kernel
theorem d_Se_measureAt_29 : decode b_Se_measureAt 29 = .ok (.iload_n 1, 1) := by decide +kernel
theorem d_Se_measureAt_30 : decode b_Se_measureAt 30 = .ok (.iaload, 1) := by decide +kernel
theorem d_Se_measureAt_31 : decode b_Se_measureAt 31 = .ok (.ireturn, 1) := by decide +kernel
def p_Se_measureAt (n : Nat) (E : PE) (F : Nat → Nat → Int32) (G : Nat → Nat → Int32) (P : Nat → Nat → Option Nat) (N : Nat → Nat) (v1 : Int32)  : Option (Int32) := (if v1 < 0 then some (-5) else (if 128 ≤ v1 then some (-5) else if ix v1 128 then (if (G 24 v1.toNatClampNeg) = 1073741824 then some (-5) else if ix v1 128 then some (G 24 v1.toNatClampNeg) else none) else none))
set_option maxHeartbeats 4000000 in
theorem c_Se_measureAt (l : Launch) (n : Nat) (E : PE) (F : Nat → Nat → Int32) (G : Nat → Nat → Int32) (P : Nat → Nat → Option Nat) (N : Nat → Nat) (dC : Nat → ClassId) (dI : Nat → Nat → Nat) (ad : Nat → Nat) (cI cZ cW cJ : ClassId) (v1 : Int32)   : ROi l y_Se_measureAt b_Se_measureAt 2 (.int) (rL 5) (cB dC dI ad cI cZ cW cJ E F G P N) [.ref (ad 4), .int v1] (p_Se_measureAt n E F G P N v1 ) := by
  refine en_roi (by decide) (Nat.le_of_ble_eq_true rfl) ?_
  intro z hf p e s m args below meth c ls hx hb hml hown hT hr hlk hB hl
  obtain ⟨hK, hP, hp, hi⟩ := hB
  have hl : lv_has ls 2 [(0, .ref (ad 4)), (1, .int v1)] := hl
  unfold p_Se_measureAt at hf
  refine lv_iload_n hx hb d_Se_measureAt_0 rfl (lv_at hl 1 rfl) ?_
  refine lv_if_lt (tgt := 22) hx hb d_Se_measureAt_1 (by decide) (fun hc => ?_) (fun hc => ?_)
  · have hf := op_t hc hf
    refine lv_bipush (v := (-5)) hx hb d_Se_measureAt_22 (by decide) ?_
    obtain rfl := op_i1 hf
    exact rt_si hx hb hr hlk rfl d_Se_measureAt_24
  · have hf := op_f hc hf
    refine lv_iload_n hx hb d_Se_measureAt_4 rfl (lv_at hl 1 rfl) ?_
    refine lv_sipush (v := 128) hx hb d_Se_measureAt_5 (by decide) ?_
    refine lv_icmp_ge (tgt := 22) hx hb d_Se_measureAt_8 (by decide) (fun hc => ?_) (fun hc => ?_)
    · have hf := op_t hc hf
      refine lv_bipush (v := (-5)) hx hb d_Se_measureAt_22 (by decide) ?_
      obtain rfl := op_i1 hf
      exact rt_si hx hb hr hlk rfl d_Se_measureAt_24
    · have hf := op_f hc hf
      refine lv_aload_n hx hb d_Se_measureAt_11 rfl (lv_at hl 0 rfl) ?_
      refine cg_4_1 hx hb hT hown hK hP fl_Se_11 d_Se_measureAt_12 ?_
      refine lv_iload_n hx hb d_Se_measureAt_15 rfl (lv_at hl 1 rfl) ?_
      obtain ⟨h1, hf⟩ := op_if hf
      refine ca_24 hx hb hK hP rfl h1 d_Se_measureAt_16 ?_
      refine lv_ldc (v := 1073741824) hx hb hown (hT _ ko_Se_23) d_Se_measureAt_17 ?_
      refine lv_icmp_ne (tgt := 25) hx hb d_Se_measureAt_19 (by decide) (fun hc => ?_) (fun hc => ?_)
      · have hf := op_f hc hf
        refine lv_aload_n hx hb d_Se_measureAt_25 rfl (lv_at hl 0 rfl) ?_
        refine cg_4_1 hx hb hT hown hK hP fl_Se_11 d_Se_measureAt_26 ?_
        refine lv_iload_n hx hb d_Se_measureAt_29 rfl (lv_at hl 1 rfl) ?_
        obtain ⟨h2, hf⟩ := op_if hf
        refine ca_24 hx hb hK hP rfl h2 d_Se_measureAt_30 ?_
        obtain rfl := op_i1 hf
        exact rt_si hx hb hr hlk rfl d_Se_measureAt_31
      · have hf := op_t hc hf
        refine lv_bipush (v := (-5)) hx hb d_Se_measureAt_22 (by decide) ?_
        obtain rfl := op_i1 hf
        exact rt_si hx hb hr hlk rfl d_Se_measureAt_24
theorem hd_Se_leastUnsettled : y_Se_leastUnsettled.cls ≠ "java/lang/invoke/MethodHandle" ∧ y_Se_leastUnsettled.cls ≠ "java/lang/invoke/VarHandle" ∧ (parseMethodDescriptor y_Se_leastUnsettled.desc).map (fun d => d.parameters.length) = some 1 := by decide +kernel
theorem d_Se_leastUnsettled_0 : decode b_Se_leastUnsettled 0 = .ok (.iconst (-1), 1) := by decide +kernel
theorem d_Se_leastUnsettled_1 : decode b_Se_leastUnsettled 1 = .ok (.istore_n 2, 1) := by decide +kernel
theorem d_Se_leastUnsettled_2 : decode b_Se_leastUnsettled 2 = .ok (.ldc 23, 2) := by decide +kernel
theorem d_Se_leastUnsettled_4 : decode b_Se_leastUnsettled 4 = .ok (.istore_n 3, 1) := by decide +kernel
theorem d_Se_leastUnsettled_5 : decode b_Se_leastUnsettled 5 = .ok (.iconst 0, 1) := by decide +kernel
theorem d_Se_leastUnsettled_6 : decode b_Se_leastUnsettled 6 = .ok (.istore 4, 2) := by decide +kernel
theorem d_Se_leastUnsettled_8 : decode b_Se_leastUnsettled 8 = .ok (.iload 4, 2) := by decide +kernel
theorem d_Se_leastUnsettled_10 : decode b_Se_leastUnsettled 10 = .ok (.iload_n 1, 1) := by decide +kernel
theorem d_Se_leastUnsettled_11 : decode b_Se_leastUnsettled 11 = .ok (.if_icmp .ge 41, 3) := by decide +kernel
theorem d_Se_leastUnsettled_14 : decode b_Se_leastUnsettled 14 = .ok (.aload_n 0, 1) := by decide +kernel
theorem d_Se_leastUnsettled_15 : decode b_Se_leastUnsettled 15 = .ok (.getfield 15, 3) := by decide +kernel
theorem d_Se_leastUnsettled_18 : decode b_Se_leastUnsettled 18 = .ok (.iload 4, 2) := by decide +kernel
theorem d_Se_leastUnsettled_20 : decode b_Se_leastUnsettled 20 = .ok (.baload, 1) := by decide +kernel
theorem d_Se_leastUnsettled_21 : decode b_Se_leastUnsettled 21 = .ok (.ifCond .ne 25, 3) := by decide +kernel
theorem d_Se_leastUnsettled_24 : decode b_Se_leastUnsettled 24 = .ok (.aload_n 0, 1) := by decide +kernel
theorem d_Se_leastUnsettled_25 : decode b_Se_leastUnsettled 25 = .ok (.getfield 11, 3) := by decide +kernel
theorem d_Se_leastUnsettled_28 : decode b_Se_leastUnsettled 28 = .ok (.iload 4, 2) := by decide +kernel
theorem d_Se_leastUnsettled_30 : decode b_Se_leastUnsettled 30 = .ok (.iaload, 1) := by decide +kernel
theorem d_Se_leastUnsettled_31 : decode b_Se_leastUnsettled 31 = .ok (.iload_n 3, 1) := by decide +kernel
theorem d_Se_leastUnsettled_32 : decode b_Se_leastUnsettled 32 = .ok (.if_icmp .ge 14, 3) := by decide +kernel
theorem d_Se_leastUnsettled_35 : decode b_Se_leastUnsettled 35 = .ok (.iload 4, 2) := by decide +kernel
theorem d_Se_leastUnsettled_37 : decode b_Se_leastUnsettled 37 = .ok (.istore_n 2, 1) := by decide +kernel
theorem d_Se_leastUnsettled_38 : decode b_Se_leastUnsettled 38 = .ok (.aload_n 0, 1) := by decide +kernel
theorem d_Se_leastUnsettled_39 : decode b_Se_leastUnsettled 39 = .ok (.getfield 11, 3) := by decide +kernel
theorem d_Se_leastUnsettled_42 : decode b_Se_leastUnsettled 42 = .ok (.iload 4, 2) := by decide +kernel
theorem d_Se_leastUnsettled_44 : decode b_Se_leastUnsettled 44 = .ok (.iaload, 1) := by decide +kernel
theorem d_Se_leastUnsettled_45 : decode b_Se_leastUnsettled 45 = .ok (.istore_n 3, 1) := by decide +kernel
theorem d_Se_leastUnsettled_46 : decode b_Se_leastUnsettled 46 = .ok (.iinc 4 1, 3) := by decide +kernel
theorem d_Se_leastUnsettled_49 : decode b_Se_leastUnsettled 49 = .ok (.goto (-41), 3) := by decide +kernel
theorem d_Se_leastUnsettled_52 : decode b_Se_leastUnsettled 52 = .ok (.iload_n 2, 1) := by decide +kernel
theorem d_Se_leastUnsettled_53 : decode b_Se_leastUnsettled 53 = .ok (.ireturn, 1) := by decide +kernel
def l_Se_leastUnsettled_8 (n : Nat) (E : PE) (F : Nat → Nat → Int32) (G : Nat → Nat → Int32) (P : Nat → Nat → Option Nat) (N : Nat → Nat)  (v1 : Int32)  : Nat → Int32 → Int32 → Int32 → Option (Int32)
  | 0, _, _, _ => none
  | k + 1, v2, v3, v4 => (if v1 ≤ v4 then some v2 else if ix v4 128 then (if (G 25 v4.toNatClampNeg) = 0 then if ix v4 128 then (if v3 ≤ (G 24 v4.toNatClampNeg) then some (v2, v3) else if ix v4 128 then some (v4, (G 24 v4.toNatClampNeg)) else none) else none else some (v2, v3) : Option (Int32 × Int32)).bind fun (x3, x4) => l_Se_leastUnsettled_8 n E F G P N v1 k x3 x4 (v4 + 1) else none)
set_option maxHeartbeats 4000000 in
theorem wl_Se_leastUnsettled_8 {Q : State → Prop}  {p : Program} {l : Launch} {e : Env} {s : State} {m : MethodId} {args : Array Value} {below : List Frame} {meth : Method} {c : Code} (hx : p.tables.exec = Jvm.exec) (hb : c.code = b_Se_leastUnsettled) (hml : c.maxLocals = 5) (hown : s.vm.findClass "LanternBridge$Search" = some m.cls) (hT : ∀ w ∈ WT, w.before args s = true) (hr : meth.sig.returnType = some .int) (hlk : meth.locks = false) {dC : Nat → ClassId} {dI : Nat → Nat → Nat} {ad : Nat → Nat} {cI cZ cW cJ : ClassId} {E : PE} {F G : Nat → Nat → Int32} {P : Nat → Nat → Option Nat} {N : Nat → Nat} (hK : cK dC dI cI cZ cW cJ s) (hP : va_P (dC, dI) CL (cX ad cI cZ cW cJ F G P N) s.heap) (hp : pS dC dI cI E (fun _ => False) s.heap) (hi : iS s) (n : Nat)  (v1 : Int32)  : ∀ (k : Nat) (v2 : Int32) (v3 : Int32) (v4 : Int32) (r0 : Int32), l_Se_leastUnsettled_8 n E F G P N v1 k v2 v3 v4 = some r0 → (∀ (ls : Array Slot), lv_has ls 5 [(2, .int r0)] → W p l e (rL 5) s m args below meth c s.heap [] 0 0 Q (F0 m 52 ls [])) → ∀ (ls : Array Slot), lv_has ls 5 [(0, .ref (ad 4)), (1, .int v1), (2, .int v2), (3, .int v3), (4, .int v4)] → W p l e (rL 5) s m args below meth c s.heap [] 0 0 Q (F0 m 8 ls []) := by
  intro k
  induction k with
  | zero => intro v2 v3 v4 r0 hf; exact absurd hf (by unfold l_Se_leastUnsettled_8; exact fun h9 => by cases h9)
  | succ k ih =>
    intro v2 v3 v4 r0 hf K ls hl
    unfold l_Se_leastUnsettled_8 at hf
    refine lv_iload hx hb d_Se_leastUnsettled_8 (lv_at hl 4 rfl) ?_
    refine lv_iload_n hx hb d_Se_leastUnsettled_10 rfl (lv_at hl 1 rfl) ?_
    refine lv_icmp_ge (tgt := 52) hx hb d_Se_leastUnsettled_11 (by decide) (fun hc => ?_) (fun hc => ?_)
    · have hf := op_t hc hf
      obtain rfl := op_i1 hf
      exact K ls (lv_sub hl [2] rfl)
    · have hf := op_f hc hf
      refine lv_aload_n hx hb d_Se_leastUnsettled_14 rfl (lv_at hl 0 rfl) ?_
      refine cg_4_2 hx hb hT hown hK hP fl_Se_15 d_Se_leastUnsettled_15 ?_
      refine lv_iload hx hb d_Se_leastUnsettled_18 (lv_at hl 4 rfl) ?_
      obtain ⟨h1, hf⟩ := op_if hf
      refine ca_25 hx hb hK hP rfl h1 d_Se_leastUnsettled_20 ?_
      obtain ⟨⟨x3, x4⟩, he, hf⟩ := op_bind hf
      try dsimp only at hf
      have K2 : ∀ (ls : Array Slot), lv_has ls 5 [(0, .ref (ad 4)), (1, .int v1), (2, .int x3), (3, .int x4), (4, .int v4)] → W p l e (rL 5) s m args below meth c s.heap [] 0 0 Q (F0 m 46 ls []) := by
        intro ls hl
        refine lv_iinc (v := (v4 + 1)) (lv' := [(4, .int (v4 + 1)), (0, .ref (ad 4)), (1, .int v1), (2, .int x3), (3, .int x4)]) hx hb d_Se_leastUnsettled_46 hl (k := 4) rfl rfl (by decide) rfl (fun ls hl => ?_)
        refine lv_goto (tgt := 8) hx hb d_Se_leastUnsettled_49 (by decide) ?_
        exact ih x3 x4 (v4 + 1) _ hf K ls (lv_sub hl [1, 2, 3, 4, 0] rfl)
      have hf := he
      refine lv_if_ne (tgt := 46) hx hb d_Se_leastUnsettled_21 (by decide) (fun hc => ?_) (fun hc => ?_)
      · have hf := op_f hc hf
        obtain ⟨rfl, rfl⟩ := op_i2 hf
        exact K2 ls (lv_sub hl [0, 1, 2, 3, 4] rfl)
      · have hf := op_t hc hf
        refine lv_aload_n hx hb d_Se_leastUnsettled_24 rfl (lv_at hl 0 rfl) ?_
        refine cg_4_1 hx hb hT hown hK hP fl_Se_11 d_Se_leastUnsettled_25 ?_
        refine lv_iload hx hb d_Se_leastUnsettled_28 (lv_at hl 4 rfl) ?_
        obtain ⟨h5, hf⟩ := op_if hf
        refine ca_24 hx hb hK hP rfl h5 d_Se_leastUnsettled_30 ?_
        refine lv_iload_n hx hb d_Se_leastUnsettled_31 rfl (lv_at hl 3 rfl) ?_
        refine lv_icmp_ge (tgt := 46) hx hb d_Se_leastUnsettled_32 (by decide) (fun hc => ?_) (fun hc => ?_)
        · have hf := op_t hc hf
          obtain ⟨rfl, rfl⟩ := op_i2 hf
          exact K2 ls (lv_sub hl [0, 1, 2, 3, 4] rfl)
        · have hf := op_f hc hf
          refine lv_iload hx hb d_Se_leastUnsettled_35 (lv_at hl 4 rfl) ?_
          refine lv_istore_n (lv' := [(2, .int v4), (0, .ref (ad 4)), (1, .int v1), (3, .int v3), (4, .int v4)]) hx hb d_Se_leastUnsettled_37 rfl hl (by decide) rfl (fun ls hl => ?_)
          refine lv_aload_n hx hb d_Se_leastUnsettled_38 rfl (lv_at hl 1 rfl) ?_
          refine cg_4_1 hx hb hT hown hK hP fl_Se_11 d_Se_leastUnsettled_39 ?_
          refine lv_iload hx hb d_Se_leastUnsettled_42 (lv_at hl 4 rfl) ?_
          obtain ⟨h6, hf⟩ := op_if hf
          refine ca_24 hx hb hK hP rfl h6 d_Se_leastUnsettled_44 ?_
          refine lv_istore_n (lv' := [(3, .int (G 24 v4.toNatClampNeg)), (2, .int v4), (0, .ref (ad 4)), (1, .int v1), (4, .int v4)]) hx hb d_Se_leastUnsettled_45 rfl hl (by decide) rfl (fun ls hl => ?_)
          obtain ⟨rfl, rfl⟩ := op_i2 hf
          exact K2 ls (lv_sub hl [2, 3, 1, 0, 4] rfl)
def p_Se_leastUnsettled (n : Nat) (E : PE) (F : Nat → Nat → Int32) (G : Nat → Nat → Int32) (P : Nat → Nat → Option Nat) (N : Nat → Nat) (v1 : Int32)  : Option (Int32) := (l_Se_leastUnsettled_8 n E F G P N v1 n (-1) 1073741824 0).bind fun y7 => some y7
set_option maxHeartbeats 4000000 in
theorem c_Se_leastUnsettled (l : Launch) (n : Nat) (E : PE) (F : Nat → Nat → Int32) (G : Nat → Nat → Int32) (P : Nat → Nat → Option Nat) (N : Nat → Nat) (dC : Nat → ClassId) (dI : Nat → Nat → Nat) (ad : Nat → Nat) (cI cZ cW cJ : ClassId) (v1 : Int32)   : ROi l y_Se_leastUnsettled b_Se_leastUnsettled 5 (.int) (rL 5) (cB dC dI ad cI cZ cW cJ E F G P N) [.ref (ad 4), .int v1] (p_Se_leastUnsettled n E F G P N v1 ) := by
  refine en_roi (by decide) (Nat.le_of_ble_eq_true rfl) ?_
  intro z hf p e s m args below meth c ls hx hb hml hown hT hr hlk hB hl
  obtain ⟨hK, hP, hp, hi⟩ := hB
  have hl : lv_has ls 5 [(0, .ref (ad 4)), (1, .int v1)] := hl
  unfold p_Se_leastUnsettled at hf
  refine lv_iconst (v := (-1)) hx hb d_Se_leastUnsettled_0 (by decide) ?_
  refine lv_istore_n (lv' := [(2, .int (-1)), (0, .ref (ad 4)), (1, .int v1)]) hx hb d_Se_leastUnsettled_1 rfl hl (by decide) rfl (fun ls hl => ?_)
  refine lv_ldc (v := 1073741824) hx hb hown (hT _ ko_Se_23) d_Se_leastUnsettled_2 ?_
  refine lv_istore_n (lv' := [(3, .int 1073741824), (2, .int (-1)), (0, .ref (ad 4)), (1, .int v1)]) hx hb d_Se_leastUnsettled_4 rfl hl (by decide) rfl (fun ls hl => ?_)
  refine lv_iconst (v := 0) hx hb d_Se_leastUnsettled_5 (by decide) ?_
  refine lv_istore (lv' := [(4, .int 0), (3, .int 1073741824), (2, .int (-1)), (0, .ref (ad 4)), (1, .int v1)]) hx hb d_Se_leastUnsettled_6 hl (by decide) rfl (fun ls hl => ?_)
  obtain ⟨y7, he, hf⟩ := op_bind hf
  refine wl_Se_leastUnsettled_8 hx hb hml hown hT hr hlk hK hP hp hi n v1 n (-1) 1073741824 0 _ he (fun ls hl => ?_) ls (lv_sub hl [3, 4, 2, 1, 0] rfl)
  refine lv_iload_n hx hb d_Se_leastUnsettled_52 rfl (lv_at hl 0 rfl) ?_
  obtain rfl := op_i1 hf
  exact rt_si hx hb hr hlk rfl d_Se_leastUnsettled_53
theorem hd_Se_firstSetAt : y_Se_firstSetAt.cls ≠ "java/lang/invoke/MethodHandle" ∧ y_Se_firstSetAt.cls ≠ "java/lang/invoke/VarHandle" ∧ (parseMethodDescriptor y_Se_firstSetAt.desc).map (fun d => d.parameters.length) = some 1 := by decide +kernel
theorem d_Se_firstSetAt_0 : decode b_Se_firstSetAt 0 = .ok (.aload_n 0, 1) := by decide +kernel
theorem d_Se_firstSetAt_1 : decode b_Se_firstSetAt 1 = .ok (.iload_n 1, 1) := by decide +kernel
theorem d_Se_firstSetAt_2 : decode b_Se_firstSetAt 2 = .ok (.invokevirtual 28, 3) := by decide +kernel
theorem d_Se_firstSetAt_5 : decode b_Se_firstSetAt 5 = .ok (.istore_n 2, 1) := by decide +kernel
theorem d_Se_firstSetAt_6 : decode b_Se_firstSetAt 6 = .ok (.iload_n 2, 1) := by decide +kernel
theorem d_Se_firstSetAt_7 : decode b_Se_firstSetAt 7 = .ok (.ifCond .gt 6, 3) := by decide +kernel
theorem d_Se_firstSetAt_10 : decode b_Se_firstSetAt 10 = .ok (.bipush (-5), 2) := by decide +kernel
theorem d_Se_firstSetAt_12 : decode b_Se_firstSetAt 12 = .ok (.ireturn, 1) := by decide +kernel
theorem d_Se_firstSetAt_13 : decode b_Se_firstSetAt 13 = .ok (.iload_n 1, 1) := by decide +kernel
theorem d_Se_firstSetAt_14 : decode b_Se_firstSetAt 14 = .ok (.iconst 1, 1) := by decide +kernel
theorem d_Se_firstSetAt_15 : decode b_Se_firstSetAt 15 = .ok (.iand, 1) := by decide +kernel
theorem d_Se_firstSetAt_16 : decode b_Se_firstSetAt 16 = .ok (.istore_n 3, 1) := by decide +kernel
theorem d_Se_firstSetAt_17 : decode b_Se_firstSetAt 17 = .ok (.aload_n 0, 1) := by decide +kernel
theorem d_Se_firstSetAt_18 : decode b_Se_firstSetAt 18 = .ok (.iload_n 1, 1) := by decide +kernel
theorem d_Se_firstSetAt_19 : decode b_Se_firstSetAt 19 = .ok (.invokevirtual 32, 3) := by decide +kernel
theorem d_Se_firstSetAt_22 : decode b_Se_firstSetAt 22 = .ok (.istore 4, 2) := by decide +kernel
theorem d_Se_firstSetAt_24 : decode b_Se_firstSetAt 24 = .ok (.iconst 1, 1) := by decide +kernel
theorem d_Se_firstSetAt_25 : decode b_Se_firstSetAt 25 = .ok (.istore 5, 2) := by decide +kernel
theorem d_Se_firstSetAt_27 : decode b_Se_firstSetAt 27 = .ok (.iload 5, 2) := by decide +kernel
theorem d_Se_firstSetAt_29 : decode b_Se_firstSetAt 29 = .ok (.aload_n 0, 1) := by decide +kernel
theorem d_Se_firstSetAt_30 : decode b_Se_firstSetAt 30 = .ok (.getfield 19, 3) := by decide +kernel
theorem d_Se_firstSetAt_33 : decode b_Se_firstSetAt 33 = .ok (.invokevirtual 35, 3) := by decide +kernel
theorem d_Se_firstSetAt_36 : decode b_Se_firstSetAt 36 = .ok (.if_icmp .gt 74, 3) := by decide +kernel
theorem d_Se_firstSetAt_39 : decode b_Se_firstSetAt 39 = .ok (.iload 5, 2) := by decide +kernel
theorem d_Se_firstSetAt_41 : decode b_Se_firstSetAt 41 = .ok (.iload 4, 2) := by decide +kernel
theorem d_Se_firstSetAt_43 : decode b_Se_firstSetAt 43 = .ok (.iconst (-1), 1) := by decide +kernel
theorem d_Se_firstSetAt_44 : decode b_Se_firstSetAt 44 = .ok (.ixor, 1) := by decide +kernel
theorem d_Se_firstSetAt_45 : decode b_Se_firstSetAt 45 = .ok (.iand, 1) := by decide +kernel
theorem d_Se_firstSetAt_46 : decode b_Se_firstSetAt 46 = .ok (.ifCond .ne 58, 3) := by decide +kernel
theorem d_Se_firstSetAt_49 : decode b_Se_firstSetAt 49 = .ok (.aload_n 0, 1) := by decide +kernel
theorem d_Se_firstSetAt_50 : decode b_Se_firstSetAt 50 = .ok (.getfield 19, 3) := by decide +kernel
theorem d_Se_firstSetAt_53 : decode b_Se_firstSetAt 53 = .ok (.iload 5, 2) := by decide +kernel
theorem d_Se_firstSetAt_55 : decode b_Se_firstSetAt 55 = .ok (.iload_n 3, 1) := by decide +kernel
theorem d_Se_firstSetAt_56 : decode b_Se_firstSetAt 56 = .ok (.invokevirtual 41, 3) := by decide +kernel
theorem d_Se_firstSetAt_59 : decode b_Se_firstSetAt 59 = .ok (.ifCond .ne 6, 3) := by decide +kernel
theorem d_Se_firstSetAt_62 : decode b_Se_firstSetAt 62 = .ok (.goto 42, 3) := by decide +kernel
theorem d_Se_firstSetAt_65 : decode b_Se_firstSetAt 65 = .ok (.aload_n 0, 1) := by decide +kernel
theorem d_Se_firstSetAt_66 : decode b_Se_firstSetAt 66 = .ok (.iload_n 1, 1) := by decide +kernel
theorem d_Se_firstSetAt_67 : decode b_Se_firstSetAt 67 = .ok (.iload 5, 2) := by decide +kernel
theorem d_Se_firstSetAt_69 : decode b_Se_firstSetAt 69 = .ok (.invokestatic 45, 3) := by decide +kernel
theorem d_Se_firstSetAt_72 : decode b_Se_firstSetAt 72 = .ok (.invokevirtual 28, 3) := by decide +kernel
theorem d_Se_firstSetAt_75 : decode b_Se_firstSetAt 75 = .ok (.istore 6, 2) := by decide +kernel
theorem d_Se_firstSetAt_77 : decode b_Se_firstSetAt 77 = .ok (.iload 6, 2) := by decide +kernel
theorem d_Se_firstSetAt_79 : decode b_Se_firstSetAt 79 = .ok (.bipush (-5), 2) := by decide +kernel
theorem d_Se_firstSetAt_81 : decode b_Se_firstSetAt 81 = .ok (.if_icmp .eq 23, 3) := by decide +kernel
theorem d_Se_firstSetAt_84 : decode b_Se_firstSetAt 84 = .ok (.iload 6, 2) := by decide +kernel
theorem d_Se_firstSetAt_86 : decode b_Se_firstSetAt 86 = .ok (.aload_n 0, 1) := by decide +kernel
theorem d_Se_firstSetAt_87 : decode b_Se_firstSetAt 87 = .ok (.getfield 19, 3) := by decide +kernel
theorem d_Se_firstSetAt_90 : decode b_Se_firstSetAt 90 = .ok (.iload 5, 2) := by decide +kernel
theorem d_Se_firstSetAt_92 : decode b_Se_firstSetAt 92 = .ok (.iload_n 3, 1) := by decide +kernel
theorem d_Se_firstSetAt_93 : decode b_Se_firstSetAt 93 = .ok (.invokevirtual 49, 3) := by decide +kernel
theorem d_Se_firstSetAt_96 : decode b_Se_firstSetAt 96 = .ok (.iadd, 1) := by decide +kernel
theorem d_Se_firstSetAt_97 : decode b_Se_firstSetAt 97 = .ok (.iload_n 2, 1) := by decide +kernel
theorem d_Se_firstSetAt_98 : decode b_Se_firstSetAt 98 = .ok (.if_icmp .ne 6, 3) := by decide +kernel
theorem d_Se_firstSetAt_101 : decode b_Se_firstSetAt 101 = .ok (.iload 5, 2) := by decide +kernel
theorem d_Se_firstSetAt_103 : decode b_Se_firstSetAt 103 = .ok (.ireturn, 1) := by decide +kernel
theorem d_Se_firstSetAt_104 : decode b_Se_firstSetAt 104 = .ok (.iinc 5 1, 3) := by decide +kernel
theorem d_Se_firstSetAt_107 : decode b_Se_firstSetAt 107 = .ok (.goto (-80), 3) := by decide +kernel
theorem d_Se_firstSetAt_110 : decode b_Se_firstSetAt 110 = .ok (.bipush (-5), 2) := by decide +kernel
theorem d_Se_firstSetAt_112 : decode b_Se_firstSetAt 112 = .ok (.ireturn, 1) := by decide +kernel
def l_Se_firstSetAt_27 (n : Nat) (E : PE) (F : Nat → Nat → Int32) (G : Nat → Nat → Int32) (P : Nat → Nat → Option Nat) (N : Nat → Nat)  (v1 : Int32) (v2 : Int32) (v3 : Int32) (v4 : Int32)  : Nat → Int32 → Option (Int32)
  | 0, _ => none
  | k + 1, v5 => (p_Go_everybody n E F G P N ).bind fun x6 => (if x6 < v5 then some (-5) else (if (v5 &&& (v4 ^^^ (-1))) = 0 then (p_Go_canBe n E F G P N v5 v3).bind fun x8 => (if x8 = 0 then l_Se_firstSetAt_27 n E F G P N v1 v2 v3 v4 k (v5 + 1) else (p_Se_placeBehind n v1 v5).bind fun x10 => (p_Se_measureAt n E F G P N x10).bind fun x12 => (if x12 = (-5) then l_Se_firstSetAt_27 n E F G P N v1 v2 v3 v4 k (v5 + 1) else (p_Go_minutesOf n E F G P N v5 v3).bind fun x14 => (if (x12 + x14) = v2 then some v5 else l_Se_firstSetAt_27 n E F G P N v1 v2 v3 v4 k (v5 + 1)))) else l_Se_firstSetAt_27 n E F G P N v1 v2 v3 v4 k (v5 + 1)))
set_option maxHeartbeats 4000000 in
theorem wl_Se_firstSetAt_27  {p : Program} {l : Launch} {e : Env} {s : State} {m : MethodId} {args : Array Value} {below : List Frame} {meth : Method} {c : Code} (hx : p.tables.exec = Jvm.exec) (hb : c.code = b_Se_firstSetAt) (hml : c.maxLocals = 7) (hown : s.vm.findClass "LanternBridge$Search" = some m.cls) (hT : ∀ w ∈ WT, w.before args s = true) (hr : meth.sig.returnType = some .int) (hlk : meth.locks = false) {dC : Nat → ClassId} {dI : Nat → Nat → Nat} {ad : Nat → Nat} {cI cZ cW cJ : ClassId} {E : PE} {F G : Nat → Nat → Int32} {P : Nat → Nat → Option Nat} {N : Nat → Nat} (hK : cK dC dI cI cZ cW cJ s) (hP : va_P (dC, dI) CL (cX ad cI cZ cW cJ F G P N) s.heap) (hp : pS dC dI cI E (fun _ => False) s.heap) (hi : iS s) (n : Nat)  (v1 : Int32) (v2 : Int32) (v3 : Int32) (v4 : Int32)  : ∀ (k : Nat) (v5 : Int32) (z : Int32), l_Se_firstSetAt_27 n E F G P N v1 v2 v3 v4 k v5 = some z → ∀ (ls : Array Slot), lv_has ls 7 [(0, .ref (ad 4)), (1, .int v1), (2, .int v2), (3, .int v3), (4, .int v4), (5, .int v5)] → W p l e (rL 7) s m args below meth c s.heap [] 0 0 (MQ below (fun _ st oc t => oc = .returned (some (.int z)) ∧ t.heap = st.heap) args s 0 0 (fun _ => False)) (F0 m 27 ls []) := by
  intro k
  induction k with
  | zero => intro v5 z hf; exact absurd hf (by unfold l_Se_firstSetAt_27; exact fun h9 => by cases h9)
  | succ k ih =>
    intro v5 z hf ls hl
    unfold l_Se_firstSetAt_27 at hf
    refine lv_iload hx hb d_Se_firstSetAt_27 (lv_at hl 5 rfl) ?_
    refine lv_aload_n hx hb d_Se_firstSetAt_29 rfl (lv_at hl 0 rfl) ?_
    refine cg_4_0 hx hb hT hown hK hP fl_Se_19 d_Se_firstSetAt_30 ?_
    obtain ⟨x6, hc5, hf⟩ := op_bind hf
    refine kr_i (C := R_Go) (b0 := ad 3) (rest := [.int v5]) hx hb hml hown hT cB_bl (cB_to hK hP hp hi) (va_recv hK hP (ci := 1) (q0 := 3) rfl rfl) (c_Go_everybody l n E F G P N dC dI ad cI cZ cW cJ  _ hc5) (cbW 0 hT cd_Go_everybody rfl rfl ini_Go ml_Se_35 hd_Go_everybody ⟨Nat.le_of_ble_eq_true rfl, Nat.le_of_ble_eq_true rfl⟩) im_Go_everybody se_Go_Go_everybody__Go_everybody rfl hl.1 rfl (Nat.le_of_ble_eq_true rfl) d_Se_firstSetAt_33 ⟨Nat.zero_le _, Nat.zero_le _⟩ ?_
    refine lv_icmp_gt (tgt := 110) hx hb d_Se_firstSetAt_36 (by decide) (fun hc => ?_) (fun hc => ?_)
    · have hf := op_t hc hf
      refine lv_bipush (v := (-5)) hx hb d_Se_firstSetAt_110 (by decide) ?_
      obtain rfl := op_i1 hf
      exact rt_si hx hb hr hlk rfl d_Se_firstSetAt_112
    · have hf := op_f hc hf
      refine lv_iload hx hb d_Se_firstSetAt_39 (lv_at hl 5 rfl) ?_
      refine lv_iload hx hb d_Se_firstSetAt_41 (lv_at hl 4 rfl) ?_
      refine lv_iconst (v := (-1)) hx hb d_Se_firstSetAt_43 (by decide) ?_
      refine lv_ixor hx hb d_Se_firstSetAt_44 ?_
      refine lv_iand hx hb d_Se_firstSetAt_45 ?_
      refine lv_if_ne (tgt := 104) hx hb d_Se_firstSetAt_46 (by decide) (fun hc => ?_) (fun hc => ?_)
      · have hf := op_f hc hf
        refine lv_iinc (v := (v5 + 1)) (lv' := [(5, .int (v5 + 1)), (0, .ref (ad 4)), (1, .int v1), (2, .int v2), (3, .int v3), (4, .int v4)]) hx hb d_Se_firstSetAt_104 hl (k := 5) rfl rfl (by decide) rfl (fun ls hl => ?_)
        refine lv_goto (tgt := 27) hx hb d_Se_firstSetAt_107 (by decide) ?_
        exact ih (v5 + 1) _ hf ls (lv_sub hl [1, 2, 3, 4, 5, 0] rfl)
      · have hf := op_t hc hf
        refine lv_aload_n hx hb d_Se_firstSetAt_49 rfl (lv_at hl 0 rfl) ?_
        refine cg_4_0 hx hb hT hown hK hP fl_Se_19 d_Se_firstSetAt_50 ?_
        refine lv_iload hx hb d_Se_firstSetAt_53 (lv_at hl 5 rfl) ?_
        refine lv_iload_n hx hb d_Se_firstSetAt_55 rfl (lv_at hl 3 rfl) ?_
        obtain ⟨x8, hc7, hf⟩ := op_bind hf
        refine kr_i (C := R_Go) (b0 := ad 3) (rest := []) hx hb hml hown hT cB_bl (cB_to hK hP hp hi) (va_recv hK hP (ci := 1) (q0 := 3) rfl rfl) (c_Go_canBe l n E F G P N dC dI ad cI cZ cW cJ v5 v3 _ hc7) (cbW 2 hT cd_Go_canBe rfl rfl ini_Go ml_Se_41 hd_Go_canBe ⟨Nat.le_of_ble_eq_true rfl, Nat.le_of_ble_eq_true rfl⟩) im_Go_canBe se_Go_Go_canBe__Go_canBe rfl hl.1 rfl (Nat.le_of_ble_eq_true rfl) d_Se_firstSetAt_56 ⟨Nat.zero_le _, Nat.zero_le _⟩ ?_
        refine lv_if_ne (tgt := 65) hx hb d_Se_firstSetAt_59 (by decide) (fun hc => ?_) (fun hc => ?_)
        · have hf := op_f hc hf
          refine lv_aload_n hx hb d_Se_firstSetAt_65 rfl (lv_at hl 0 rfl) ?_
          refine lv_iload_n hx hb d_Se_firstSetAt_66 rfl (lv_at hl 1 rfl) ?_
          refine lv_iload hx hb d_Se_firstSetAt_67 (lv_at hl 5 rfl) ?_
          obtain ⟨x10, hc9, hf⟩ := op_bind hf
          refine ks_i (rest := [.ref (ad 4)]) hx hb hml hown hT (c_Se_placeBehind l n v1 v5 _ hc9) (cbW 2 hT cd_Se_placeBehind rfl rfl ini_Se ml_Se_45 hd_Se_placeBehind ⟨Nat.le_of_ble_eq_true rfl, Nat.le_of_ble_eq_true rfl⟩) sm_Se_placeBehind rfl hl.1 rfl (Nat.le_of_ble_eq_true rfl) d_Se_firstSetAt_69 ⟨Nat.zero_le _, Nat.zero_le _⟩ ?_
          obtain ⟨x12, hc11, hf⟩ := op_bind hf
          refine kr_i (C := R_Se) (b0 := ad 4) (rest := []) hx hb hml hown hT cB_bl (cB_to hK hP hp hi) (va_recv hK hP (ci := 6) (q0 := 4) rfl rfl) (c_Se_measureAt l n E F G P N dC dI ad cI cZ cW cJ x10 _ hc11) (cbW 1 hT cd_Se_measureAt rfl rfl ini_Se ml_Se_28 hd_Se_measureAt ⟨Nat.le_of_ble_eq_true rfl, Nat.le_of_ble_eq_true rfl⟩) im_Se_measureAt se_Se_Se_measureAt__Se_measureAt rfl hl.1 rfl (Nat.le_of_ble_eq_true rfl) d_Se_firstSetAt_72 ⟨Nat.zero_le _, Nat.zero_le _⟩ ?_
          refine lv_istore (lv' := [(6, .int x12), (0, .ref (ad 4)), (1, .int v1), (2, .int v2), (3, .int v3), (4, .int v4), (5, .int v5)]) hx hb d_Se_firstSetAt_75 hl (by decide) rfl (fun ls hl => ?_)
          refine lv_iload hx hb d_Se_firstSetAt_77 (lv_at hl 0 rfl) ?_
          refine lv_bipush (v := (-5)) hx hb d_Se_firstSetAt_79 (by decide) ?_
          refine lv_icmp_eq (tgt := 104) hx hb d_Se_firstSetAt_81 (by decide) (fun hc => ?_) (fun hc => ?_)
          · have hf := op_t hc hf
            refine lv_iinc (v := (v5 + 1)) (lv' := [(5, .int (v5 + 1)), (6, .int x12), (0, .ref (ad 4)), (1, .int v1), (2, .int v2), (3, .int v3), (4, .int v4)]) hx hb d_Se_firstSetAt_104 hl (k := 6) rfl rfl (by decide) rfl (fun ls hl => ?_)
            refine lv_goto (tgt := 27) hx hb d_Se_firstSetAt_107 (by decide) ?_
            exact ih (v5 + 1) _ hf ls (lv_sub hl [2, 3, 4, 5, 6, 0] rfl)
          · have hf := op_f hc hf
            refine lv_iload hx hb d_Se_firstSetAt_84 (lv_at hl 0 rfl) ?_
            refine lv_aload_n hx hb d_Se_firstSetAt_86 rfl (lv_at hl 1 rfl) ?_
            refine cg_4_0 hx hb hT hown hK hP fl_Se_19 d_Se_firstSetAt_87 ?_
            refine lv_iload hx hb d_Se_firstSetAt_90 (lv_at hl 6 rfl) ?_
            refine lv_iload_n hx hb d_Se_firstSetAt_92 rfl (lv_at hl 4 rfl) ?_
            obtain ⟨x14, hc13, hf⟩ := op_bind hf
            refine kr_i (C := R_Go) (b0 := ad 3) (rest := [.int x12]) hx hb hml hown hT cB_bl (cB_to hK hP hp hi) (va_recv hK hP (ci := 1) (q0 := 3) rfl rfl) (c_Go_minutesOf l n E F G P N dC dI ad cI cZ cW cJ v5 v3 _ hc13) (cbW 2 hT cd_Go_minutesOf rfl rfl ini_Go ml_Se_49 hd_Go_minutesOf ⟨Nat.le_of_ble_eq_true rfl, Nat.le_of_ble_eq_true rfl⟩) im_Go_minutesOf se_Go_Go_minutesOf__Go_minutesOf rfl hl.1 rfl (Nat.le_of_ble_eq_true rfl) d_Se_firstSetAt_93 ⟨Nat.zero_le _, Nat.zero_le _⟩ ?_
            refine lv_iadd hx hb d_Se_firstSetAt_96 ?_
            refine lv_iload_n hx hb d_Se_firstSetAt_97 rfl (lv_at hl 3 rfl) ?_
            refine lv_icmp_ne (tgt := 104) hx hb d_Se_firstSetAt_98 (by decide) (fun hc => ?_) (fun hc => ?_)
            · have hf := op_f hc hf
              refine lv_iinc (v := (v5 + 1)) (lv' := [(5, .int (v5 + 1)), (6, .int x12), (0, .ref (ad 4)), (1, .int v1), (2, .int v2), (3, .int v3), (4, .int v4)]) hx hb d_Se_firstSetAt_104 hl (k := 6) rfl rfl (by decide) rfl (fun ls hl => ?_)
              refine lv_goto (tgt := 27) hx hb d_Se_firstSetAt_107 (by decide) ?_
              exact ih (v5 + 1) _ hf ls (lv_sub hl [2, 3, 4, 5, 6, 0] rfl)
            · have hf := op_t hc hf
              refine lv_iload hx hb d_Se_firstSetAt_101 (lv_at hl 6 rfl) ?_
              obtain rfl := op_i1 hf
              exact rt_si hx hb hr hlk rfl d_Se_firstSetAt_103
        · have hf := op_t hc hf
          refine lv_goto (tgt := 104) hx hb d_Se_firstSetAt_62 (by decide) ?_
          refine lv_iinc (v := (v5 + 1)) (lv' := [(5, .int (v5 + 1)), (0, .ref (ad 4)), (1, .int v1), (2, .int v2), (3, .int v3), (4, .int v4)]) hx hb d_Se_firstSetAt_104 hl (k := 5) rfl rfl (by decide) rfl (fun ls hl => ?_)
          refine lv_goto (tgt := 27) hx hb d_Se_firstSetAt_107 (by decide) ?_
          exact ih (v5 + 1) _ hf ls (lv_sub hl [1, 2, 3, 4, 5, 0] rfl)
def p_Se_firstSetAt (n : Nat) (E : PE) (F : Nat → Nat → Int32) (G : Nat → Nat → Int32) (P : Nat → Nat → Option Nat) (N : Nat → Nat) (v1 : Int32)  : Option (Int32) := (p_Se_measureAt n E F G P N v1).bind fun x2 => (if 0 < x2 then (p_Se_bankWithLantern n E F G P N v1).bind fun x4 => l_Se_firstSetAt_27 n E F G P N v1 x2 (v1 &&& 1) x4 n 1 else some (-5))
set_option maxHeartbeats 4000000 in
theorem c_Se_firstSetAt (l : Launch) (n : Nat) (E : PE) (F : Nat → Nat → Int32) (G : Nat → Nat → Int32) (P : Nat → Nat → Option Nat) (N : Nat → Nat) (dC : Nat → ClassId) (dI : Nat → Nat → Nat) (ad : Nat → Nat) (cI cZ cW cJ : ClassId) (v1 : Int32)   : ROi l y_Se_firstSetAt b_Se_firstSetAt 7 (.int) (rL 7) (cB dC dI ad cI cZ cW cJ E F G P N) [.ref (ad 4), .int v1] (p_Se_firstSetAt n E F G P N v1 ) := by
  refine en_roi (by decide) (Nat.le_of_ble_eq_true rfl) ?_
  intro z hf p e s m args below meth c ls hx hb hml hown hT hr hlk hB hl
  obtain ⟨hK, hP, hp, hi⟩ := hB
  have hl : lv_has ls 7 [(0, .ref (ad 4)), (1, .int v1)] := hl
  unfold p_Se_firstSetAt at hf
  refine lv_aload_n hx hb d_Se_firstSetAt_0 rfl (lv_at hl 0 rfl) ?_
  refine lv_iload_n hx hb d_Se_firstSetAt_1 rfl (lv_at hl 1 rfl) ?_
  obtain ⟨x2, hc1, hf⟩ := op_bind hf
  refine kr_i (C := R_Se) (b0 := ad 4) (rest := []) hx hb hml hown hT cB_bl (cB_to hK hP hp hi) (va_recv hK hP (ci := 6) (q0 := 4) rfl rfl) (c_Se_measureAt l n E F G P N dC dI ad cI cZ cW cJ v1 _ hc1) (cbW 1 hT cd_Se_measureAt rfl rfl ini_Se ml_Se_28 hd_Se_measureAt ⟨Nat.le_of_ble_eq_true rfl, Nat.le_of_ble_eq_true rfl⟩) im_Se_measureAt se_Se_Se_measureAt__Se_measureAt rfl hl.1 rfl (Nat.le_of_ble_eq_true rfl) d_Se_firstSetAt_2 ⟨Nat.zero_le _, Nat.zero_le _⟩ ?_
  refine lv_istore_n (lv' := [(2, .int x2), (0, .ref (ad 4)), (1, .int v1)]) hx hb d_Se_firstSetAt_5 rfl hl (by decide) rfl (fun ls hl => ?_)
  refine lv_iload_n hx hb d_Se_firstSetAt_6 rfl (lv_at hl 0 rfl) ?_
  refine lv_if_gt (tgt := 13) hx hb d_Se_firstSetAt_7 (by decide) (fun hc => ?_) (fun hc => ?_)
  · have hf := op_t hc hf
    refine lv_iload_n hx hb d_Se_firstSetAt_13 rfl (lv_at hl 2 rfl) ?_
    refine lv_iconst (v := 1) hx hb d_Se_firstSetAt_14 (by decide) ?_
    refine lv_iand hx hb d_Se_firstSetAt_15 ?_
    refine lv_istore_n (lv' := [(3, .int (v1 &&& 1)), (2, .int x2), (0, .ref (ad 4)), (1, .int v1)]) hx hb d_Se_firstSetAt_16 rfl hl (by decide) rfl (fun ls hl => ?_)
    refine lv_aload_n hx hb d_Se_firstSetAt_17 rfl (lv_at hl 2 rfl) ?_
    refine lv_iload_n hx hb d_Se_firstSetAt_18 rfl (lv_at hl 3 rfl) ?_
    obtain ⟨x4, hc3, hf⟩ := op_bind hf
    refine kr_i (C := R_Se) (b0 := ad 4) (rest := []) hx hb hml hown hT cB_bl (cB_to hK hP hp hi) (va_recv hK hP (ci := 6) (q0 := 4) rfl rfl) (c_Se_bankWithLantern l n E F G P N dC dI ad cI cZ cW cJ v1 _ hc3) (cbW 1 hT cd_Se_bankWithLantern rfl rfl ini_Se ml_Se_32 hd_Se_bankWithLantern ⟨Nat.le_of_ble_eq_true rfl, Nat.le_of_ble_eq_true rfl⟩) im_Se_bankWithLantern sp_Se_bankWithLantern rfl hl.1 rfl (Nat.le_of_ble_eq_true rfl) d_Se_firstSetAt_19 ⟨Nat.zero_le _, Nat.zero_le _⟩ ?_
    refine lv_istore (lv' := [(4, .int x4), (3, .int (v1 &&& 1)), (2, .int x2), (0, .ref (ad 4)), (1, .int v1)]) hx hb d_Se_firstSetAt_22 hl (by decide) rfl (fun ls hl => ?_)
    refine lv_iconst (v := 1) hx hb d_Se_firstSetAt_24 (by decide) ?_
    refine lv_istore (lv' := [(5, .int 1), (4, .int x4), (3, .int (v1 &&& 1)), (2, .int x2), (0, .ref (ad 4)), (1, .int v1)]) hx hb d_Se_firstSetAt_25 hl (by decide) rfl (fun ls hl => ?_)
    exact wl_Se_firstSetAt_27 hx hb hml hown hT hr hlk hK hP hp hi n v1 x2 (v1 &&& 1) x4 n 1 _ hf ls (lv_sub hl [4, 5, 3, 2, 1, 0] rfl)
  · have hf := op_f hc hf
    refine lv_bipush (v := (-5)) hx hb d_Se_firstSetAt_10 (by decide) ?_
    obtain rfl := op_i1 hf
    exact rt_si hx hb hr hlk rfl d_Se_firstSetAt_12
theorem hd_Se_mostOver : y_Se_mostOver.cls ≠ "java/lang/invoke/MethodHandle" ∧ y_Se_mostOver.cls ≠ "java/lang/invoke/VarHandle" ∧ (parseMethodDescriptor y_Se_mostOver.desc).map (fun d => d.parameters.length) = some 1 := by decide +kernel
theorem d_Se_mostOver_0 : decode b_Se_mostOver 0 = .ok (.iconst 0, 1) := by decide +kernel
theorem d_Se_mostOver_1 : decode b_Se_mostOver 1 = .ok (.istore_n 2, 1) := by decide +kernel
theorem d_Se_mostOver_2 : decode b_Se_mostOver 2 = .ok (.iconst (-1), 1) := by decide +kernel
theorem d_Se_mostOver_3 : decode b_Se_mostOver 3 = .ok (.istore_n 3, 1) := by decide +kernel
theorem d_Se_mostOver_4 : decode b_Se_mostOver 4 = .ok (.iconst 0, 1) := by decide +kernel
theorem d_Se_mostOver_5 : decode b_Se_mostOver 5 = .ok (.istore 4, 2) := by decide +kernel
theorem d_Se_mostOver_7 : decode b_Se_mostOver 7 = .ok (.iload 4, 2) := by decide +kernel
theorem d_Se_mostOver_9 : decode b_Se_mostOver 9 = .ok (.iconst 2, 1) := by decide +kernel
theorem d_Se_mostOver_10 : decode b_Se_mostOver 10 = .ok (.aload_n 0, 1) := by decide +kernel
theorem d_Se_mostOver_11 : decode b_Se_mostOver 11 = .ok (.getfield 19, 3) := by decide +kernel
theorem d_Se_mostOver_14 : decode b_Se_mostOver 14 = .ok (.invokevirtual 35, 3) := by decide +kernel
theorem d_Se_mostOver_17 : decode b_Se_mostOver 17 = .ok (.iconst 1, 1) := by decide +kernel
theorem d_Se_mostOver_18 : decode b_Se_mostOver 18 = .ok (.iadd, 1) := by decide +kernel
theorem d_Se_mostOver_19 : decode b_Se_mostOver 19 = .ok (.imul, 1) := by decide +kernel
theorem d_Se_mostOver_20 : decode b_Se_mostOver 20 = .ok (.if_icmp .ge 51, 3) := by decide +kernel
theorem d_Se_mostOver_23 : decode b_Se_mostOver 23 = .ok (.iload 4, 2) := by decide +kernel
theorem d_Se_mostOver_25 : decode b_Se_mostOver 25 = .ok (.sipush 128, 3) := by decide +kernel
theorem d_Se_mostOver_28 : decode b_Se_mostOver 28 = .ok (.if_icmp .ge 43, 3) := by decide +kernel
theorem d_Se_mostOver_31 : decode b_Se_mostOver 31 = .ok (.iload 4, 2) := by decide +kernel
theorem d_Se_mostOver_33 : decode b_Se_mostOver 33 = .ok (.iconst 1, 1) := by decide +kernel
theorem d_Se_mostOver_34 : decode b_Se_mostOver 34 = .ok (.ishr, 1) := by decide +kernel
theorem d_Se_mostOver_35 : decode b_Se_mostOver 35 = .ok (.invokestatic 52, 3) := by decide +kernel
theorem d_Se_mostOver_38 : decode b_Se_mostOver 38 = .ok (.istore 5, 2) := by decide +kernel
theorem d_Se_mostOver_40 : decode b_Se_mostOver 40 = .ok (.aload_n 0, 1) := by decide +kernel
theorem d_Se_mostOver_41 : decode b_Se_mostOver 41 = .ok (.getfield 11, 3) := by decide +kernel
theorem d_Se_mostOver_44 : decode b_Se_mostOver 44 = .ok (.iload 4, 2) := by decide +kernel
theorem d_Se_mostOver_46 : decode b_Se_mostOver 46 = .ok (.iaload, 1) := by decide +kernel
theorem d_Se_mostOver_47 : decode b_Se_mostOver 47 = .ok (.iload_n 1, 1) := by decide +kernel
theorem d_Se_mostOver_48 : decode b_Se_mostOver 48 = .ok (.if_icmp .gt 17, 3) := by decide +kernel
theorem d_Se_mostOver_51 : decode b_Se_mostOver 51 = .ok (.iload 5, 2) := by decide +kernel
theorem d_Se_mostOver_53 : decode b_Se_mostOver 53 = .ok (.iload_n 3, 1) := by decide +kernel
theorem d_Se_mostOver_54 : decode b_Se_mostOver 54 = .ok (.if_icmp .le 11, 3) := by decide +kernel
theorem d_Se_mostOver_57 : decode b_Se_mostOver 57 = .ok (.iload 5, 2) := by decide +kernel
theorem d_Se_mostOver_59 : decode b_Se_mostOver 59 = .ok (.istore_n 3, 1) := by decide +kernel
theorem d_Se_mostOver_60 : decode b_Se_mostOver 60 = .ok (.iload 4, 2) := by decide +kernel
theorem d_Se_mostOver_62 : decode b_Se_mostOver 62 = .ok (.iconst 1, 1) := by decide +kernel
theorem d_Se_mostOver_63 : decode b_Se_mostOver 63 = .ok (.ishr, 1) := by decide +kernel
theorem d_Se_mostOver_64 : decode b_Se_mostOver 64 = .ok (.istore_n 2, 1) := by decide +kernel
theorem d_Se_mostOver_65 : decode b_Se_mostOver 65 = .ok (.iinc 4 1, 3) := by decide +kernel
theorem d_Se_mostOver_68 : decode b_Se_mostOver 68 = .ok (.goto (-61), 3) := by decide +kernel
theorem d_Se_mostOver_71 : decode b_Se_mostOver 71 = .ok (.iload_n 2, 1) := by decide +kernel
theorem d_Se_mostOver_72 : decode b_Se_mostOver 72 = .ok (.ireturn, 1) := by decide +kernel
def l_Se_mostOver_7 (n : Nat) (E : PE) (F : Nat → Nat → Int32) (G : Nat → Nat → Int32) (P : Nat → Nat → Option Nat) (N : Nat → Nat)  (v1 : Int32)  : Nat → Int32 → Int32 → Int32 → Option (Int32)
  | 0, _, _, _ => none
  | k + 1, v2, v3, v4 => (p_Go_everybody n E F G P N ).bind fun x2 => (if (2 * (x2 + 1)) ≤ v4 then some v2 else (if 128 ≤ v4 then some v2 else (p_Integer_bitCount n (v4 >>> (1 &&& 31))).bind fun x4 => if ix v4 128 then (if v1 < (G 24 v4.toNatClampNeg) then some (v2, v3) else (if x4 ≤ v3 then some (v2, v3) else some ((v4 >>> (1 &&& 31)), x4)) : Option (Int32 × Int32)).bind fun (x7, x8) => l_Se_mostOver_7 n E F G P N v1 k x7 x8 (v4 + 1) else none))
set_option maxHeartbeats 4000000 in
theorem wl_Se_mostOver_7 {Q : State → Prop}  {p : Program} {l : Launch} {e : Env} {s : State} {m : MethodId} {args : Array Value} {below : List Frame} {meth : Method} {c : Code} (hx : p.tables.exec = Jvm.exec) (hb : c.code = b_Se_mostOver) (hml : c.maxLocals = 6) (hown : s.vm.findClass "LanternBridge$Search" = some m.cls) (hT : ∀ w ∈ WT, w.before args s = true) (hr : meth.sig.returnType = some .int) (hlk : meth.locks = false) {dC : Nat → ClassId} {dI : Nat → Nat → Nat} {ad : Nat → Nat} {cI cZ cW cJ : ClassId} {E : PE} {F G : Nat → Nat → Int32} {P : Nat → Nat → Option Nat} {N : Nat → Nat} (hK : cK dC dI cI cZ cW cJ s) (hP : va_P (dC, dI) CL (cX ad cI cZ cW cJ F G P N) s.heap) (hp : pS dC dI cI E (fun _ => False) s.heap) (hi : iS s) (n : Nat)  (v1 : Int32)  : ∀ (k : Nat) (v2 : Int32) (v3 : Int32) (v4 : Int32) (r0 : Int32), l_Se_mostOver_7 n E F G P N v1 k v2 v3 v4 = some r0 → (∀ (ls : Array Slot), lv_has ls 6 [(2, .int r0)] → W p l e (rL 6) s m args below meth c s.heap [] 0 0 Q (F0 m 71 ls [])) → ∀ (ls : Array Slot), lv_has ls 6 [(0, .ref (ad 4)), (1, .int v1), (2, .int v2), (3, .int v3), (4, .int v4)] → W p l e (rL 6) s m args below meth c s.heap [] 0 0 Q (F0 m 7 ls []) := by
  intro k
  induction k with
  | zero => intro v2 v3 v4 r0 hf; exact absurd hf (by unfold l_Se_mostOver_7; exact fun h9 => by cases h9)
  | succ k ih =>
    intro v2 v3 v4 r0 hf K ls hl
    unfold l_Se_mostOver_7 at hf
    refine lv_iload hx hb d_Se_mostOver_7 (lv_at hl 4 rfl) ?_
    refine lv_iconst (v := 2) hx hb d_Se_mostOver_9 (by decide) ?_
    refine lv_aload_n hx hb d_Se_mostOver_10 rfl (lv_at hl 0 rfl) ?_
    refine cg_4_0 hx hb hT hown hK hP fl_Se_19 d_Se_mostOver_11 ?_
    obtain ⟨x2, hc1, hf⟩ := op_bind hf
    refine kr_i (C := R_Go) (b0 := ad 3) (rest := [.int 2, .int v4]) hx hb hml hown hT cB_bl (cB_to hK hP hp hi) (va_recv hK hP (ci := 1) (q0 := 3) rfl rfl) (c_Go_everybody l n E F G P N dC dI ad cI cZ cW cJ  _ hc1) (cbW 0 hT cd_Go_everybody rfl rfl ini_Go ml_Se_35 hd_Go_everybody ⟨Nat.le_of_ble_eq_true rfl, Nat.le_of_ble_eq_true rfl⟩) im_Go_everybody se_Go_Go_everybody__Go_everybody rfl hl.1 rfl (Nat.le_of_ble_eq_true rfl) d_Se_mostOver_14 ⟨Nat.zero_le _, Nat.zero_le _⟩ ?_
    refine lv_iconst (v := 1) hx hb d_Se_mostOver_17 (by decide) ?_
    refine lv_iadd hx hb d_Se_mostOver_18 ?_
    refine lv_imul hx hb d_Se_mostOver_19 ?_
    refine lv_icmp_ge (tgt := 71) hx hb d_Se_mostOver_20 (by decide) (fun hc => ?_) (fun hc => ?_)
    · have hf := op_t hc hf
      obtain rfl := op_i1 hf
      exact K ls (lv_sub hl [2] rfl)
    · have hf := op_f hc hf
      refine lv_iload hx hb d_Se_mostOver_23 (lv_at hl 4 rfl) ?_
      refine lv_sipush (v := 128) hx hb d_Se_mostOver_25 (by decide) ?_
      refine lv_icmp_ge (tgt := 71) hx hb d_Se_mostOver_28 (by decide) (fun hc => ?_) (fun hc => ?_)
      · have hf := op_t hc hf
        obtain rfl := op_i1 hf
        exact K ls (lv_sub hl [2] rfl)
      · have hf := op_f hc hf
        refine lv_iload hx hb d_Se_mostOver_31 (lv_at hl 4 rfl) ?_
        refine lv_iconst (v := 1) hx hb d_Se_mostOver_33 (by decide) ?_
        refine lv_ishr hx hb d_Se_mostOver_34 ?_
        obtain ⟨x4, hc3, hf⟩ := op_bind hf
        refine ks_i (rest := []) hx hb hml hown hT (c_Integer_bitCount l n (v4 >>> (1 &&& 31)) _ hc3) (cbW 1 hT cd_Integer_bitCount rfl rfl ini_Integer ml_Se_52 hd_Integer_bitCount ⟨Nat.le_of_ble_eq_true rfl, Nat.le_of_ble_eq_true rfl⟩) sm_Integer_bitCount rfl hl.1 rfl (Nat.le_of_ble_eq_true rfl) d_Se_mostOver_35 ⟨Nat.zero_le _, Nat.zero_le _⟩ ?_
        refine lv_istore (lv' := [(5, .int x4), (0, .ref (ad 4)), (1, .int v1), (2, .int v2), (3, .int v3), (4, .int v4)]) hx hb d_Se_mostOver_38 hl (by decide) rfl (fun ls hl => ?_)
        refine lv_aload_n hx hb d_Se_mostOver_40 rfl (lv_at hl 1 rfl) ?_
        refine cg_4_1 hx hb hT hown hK hP fl_Se_11 d_Se_mostOver_41 ?_
        refine lv_iload hx hb d_Se_mostOver_44 (lv_at hl 5 rfl) ?_
        obtain ⟨h5, hf⟩ := op_if hf
        refine ca_24 hx hb hK hP rfl h5 d_Se_mostOver_46 ?_
        refine lv_iload_n hx hb d_Se_mostOver_47 rfl (lv_at hl 2 rfl) ?_
        obtain ⟨⟨x7, x8⟩, he, hf⟩ := op_bind hf
        try dsimp only at hf
        have K6 : ∀ (ls : Array Slot), lv_has ls 6 [(0, .ref (ad 4)), (1, .int v1), (2, .int x7), (3, .int x8), (4, .int v4)] → W p l e (rL 6) s m args below meth c s.heap [] 0 0 Q (F0 m 65 ls []) := by
          intro ls hl
          refine lv_iinc (v := (v4 + 1)) (lv' := [(4, .int (v4 + 1)), (0, .ref (ad 4)), (1, .int v1), (2, .int x7), (3, .int x8)]) hx hb d_Se_mostOver_65 hl (k := 4) rfl rfl (by decide) rfl (fun ls hl => ?_)
          refine lv_goto (tgt := 7) hx hb d_Se_mostOver_68 (by decide) ?_
          exact ih x7 x8 (v4 + 1) _ hf K ls (lv_sub hl [1, 2, 3, 4, 0] rfl)
        have hf := he
        refine lv_icmp_gt (tgt := 65) hx hb d_Se_mostOver_48 (by decide) (fun hc => ?_) (fun hc => ?_)
        · have hf := op_t hc hf
          obtain ⟨rfl, rfl⟩ := op_i2 hf
          exact K6 ls (lv_sub hl [1, 2, 3, 4, 5] rfl)
        · have hf := op_f hc hf
          refine lv_iload hx hb d_Se_mostOver_51 (lv_at hl 0 rfl) ?_
          refine lv_iload_n hx hb d_Se_mostOver_53 rfl (lv_at hl 4 rfl) ?_
          refine lv_icmp_le (tgt := 65) hx hb d_Se_mostOver_54 (by decide) (fun hc => ?_) (fun hc => ?_)
          · have hf := op_t hc hf
            obtain ⟨rfl, rfl⟩ := op_i2 hf
            exact K6 ls (lv_sub hl [1, 2, 3, 4, 5] rfl)
          · have hf := op_f hc hf
            refine lv_iload hx hb d_Se_mostOver_57 (lv_at hl 0 rfl) ?_
            refine lv_istore_n (lv' := [(3, .int x4), (5, .int x4), (0, .ref (ad 4)), (1, .int v1), (2, .int v2), (4, .int v4)]) hx hb d_Se_mostOver_59 rfl hl (by decide) rfl (fun ls hl => ?_)
            refine lv_iload hx hb d_Se_mostOver_60 (lv_at hl 5 rfl) ?_
            refine lv_iconst (v := 1) hx hb d_Se_mostOver_62 (by decide) ?_
            refine lv_ishr hx hb d_Se_mostOver_63 ?_
            refine lv_istore_n (lv' := [(2, .int (v4 >>> (1 &&& 31))), (3, .int x4), (5, .int x4), (0, .ref (ad 4)), (1, .int v1), (4, .int v4)]) hx hb d_Se_mostOver_64 rfl hl (by decide) rfl (fun ls hl => ?_)
            obtain ⟨rfl, rfl⟩ := op_i2 hf
            exact K6 ls (lv_sub hl [3, 4, 0, 1, 5] rfl)
def p_Se_mostOver (n : Nat) (E : PE) (F : Nat → Nat → Int32) (G : Nat → Nat → Int32) (P : Nat → Nat → Option Nat) (N : Nat → Nat) (v1 : Int32)  : Option (Int32) := (l_Se_mostOver_7 n E F G P N v1 n 0 (-1) 0).bind fun y9 => some y9
set_option maxHeartbeats 4000000 in
theorem c_Se_mostOver (l : Launch) (n : Nat) (E : PE) (F : Nat → Nat → Int32) (G : Nat → Nat → Int32) (P : Nat → Nat → Option Nat) (N : Nat → Nat) (dC : Nat → ClassId) (dI : Nat → Nat → Nat) (ad : Nat → Nat) (cI cZ cW cJ : ClassId) (v1 : Int32)   : ROi l y_Se_mostOver b_Se_mostOver 6 (.int) (rL 6) (cB dC dI ad cI cZ cW cJ E F G P N) [.ref (ad 4), .int v1] (p_Se_mostOver n E F G P N v1 ) := by
  refine en_roi (by decide) (Nat.le_of_ble_eq_true rfl) ?_
  intro z hf p e s m args below meth c ls hx hb hml hown hT hr hlk hB hl
  obtain ⟨hK, hP, hp, hi⟩ := hB
  have hl : lv_has ls 6 [(0, .ref (ad 4)), (1, .int v1)] := hl
  unfold p_Se_mostOver at hf
  refine lv_iconst (v := 0) hx hb d_Se_mostOver_0 (by decide) ?_
  refine lv_istore_n (lv' := [(2, .int 0), (0, .ref (ad 4)), (1, .int v1)]) hx hb d_Se_mostOver_1 rfl hl (by decide) rfl (fun ls hl => ?_)
  refine lv_iconst (v := (-1)) hx hb d_Se_mostOver_2 (by decide) ?_
  refine lv_istore_n (lv' := [(3, .int (-1)), (2, .int 0), (0, .ref (ad 4)), (1, .int v1)]) hx hb d_Se_mostOver_3 rfl hl (by decide) rfl (fun ls hl => ?_)
  refine lv_iconst (v := 0) hx hb d_Se_mostOver_4 (by decide) ?_
  refine lv_istore (lv' := [(4, .int 0), (3, .int (-1)), (2, .int 0), (0, .ref (ad 4)), (1, .int v1)]) hx hb d_Se_mostOver_5 hl (by decide) rfl (fun ls hl => ?_)
  obtain ⟨y9, he, hf⟩ := op_bind hf
  refine wl_Se_mostOver_7 hx hb hml hown hT hr hlk hK hP hp hi n v1 n 0 (-1) 0 _ he (fun ls hl => ?_) ls (lv_sub hl [3, 4, 2, 1, 0] rfl)
  refine lv_iload_n hx hb d_Se_mostOver_71 rfl (lv_at hl 0 rfl) ?_
  obtain rfl := op_i1 hf
  exact rt_si hx hb hr hlk rfl d_Se_mostOver_72
theorem hd_Se_settleAll : y_Se_settleAll.cls ≠ "java/lang/invoke/MethodHandle" ∧ y_Se_settleAll.cls ≠ "java/lang/invoke/VarHandle" ∧ (parseMethodDescriptor y_Se_settleAll.desc).map (fun d => d.parameters.length) = some 3 := by decide +kernel
theorem d_Se_settleAll_0 : decode b_Se_settleAll 0 = .ok (.sipush 128, 3) := by decide +kernel
theorem d_Se_settleAll_3 : decode b_Se_settleAll 3 = .ok (.iconst 2, 1) := by decide +kernel
theorem d_Se_settleAll_4 : decode b_Se_settleAll 4 = .ok (.aload_n 0, 1) := by decide +kernel
theorem d_Se_settleAll_5 : decode b_Se_settleAll 5 = .ok (.getfield 19, 3) := by decide +kernel
theorem d_Se_settleAll_8 : decode b_Se_settleAll 8 = .ok (.invokevirtual 35, 3) := by decide +kernel
theorem d_Se_settleAll_11 : decode b_Se_settleAll 11 = .ok (.iconst 1, 1) := by decide +kernel
theorem d_Se_settleAll_12 : decode b_Se_settleAll 12 = .ok (.iadd, 1) := by decide +kernel
theorem d_Se_settleAll_13 : decode b_Se_settleAll 13 = .ok (.imul, 1) := by decide +kernel
theorem d_Se_settleAll_14 : decode b_Se_settleAll 14 = .ok (.invokestatic 57, 3) := by decide +kernel
theorem d_Se_settleAll_17 : decode b_Se_settleAll 17 = .ok (.istore 4, 2) := by decide +kernel
theorem d_Se_settleAll_19 : decode b_Se_settleAll 19 = .ok (.iconst 0, 1) := by decide +kernel
theorem d_Se_settleAll_20 : decode b_Se_settleAll 20 = .ok (.istore 5, 2) := by decide +kernel
theorem d_Se_settleAll_22 : decode b_Se_settleAll 22 = .ok (.iload 5, 2) := by decide +kernel
theorem d_Se_settleAll_24 : decode b_Se_settleAll 24 = .ok (.iload 4, 2) := by decide +kernel
theorem d_Se_settleAll_26 : decode b_Se_settleAll 26 = .ok (.if_icmp .ge 151, 3) := by decide +kernel
theorem d_Se_settleAll_29 : decode b_Se_settleAll 29 = .ok (.aload_n 0, 1) := by decide +kernel
theorem d_Se_settleAll_30 : decode b_Se_settleAll 30 = .ok (.iload 4, 2) := by decide +kernel
theorem d_Se_settleAll_32 : decode b_Se_settleAll 32 = .ok (.invokevirtual 62, 3) := by decide +kernel
theorem d_Se_settleAll_35 : decode b_Se_settleAll 35 = .ok (.istore 6, 2) := by decide +kernel
theorem d_Se_settleAll_37 : decode b_Se_settleAll 37 = .ok (.iload 6, 2) := by decide +kernel
theorem d_Se_settleAll_39 : decode b_Se_settleAll 39 = .ok (.ifCond .ge 4, 3) := by decide +kernel
theorem d_Se_settleAll_42 : decode b_Se_settleAll 42 = .ok (.return_, 1) := by decide +kernel
theorem d_Se_settleAll_43 : decode b_Se_settleAll 43 = .ok (.aload_n 0, 1) := by decide +kernel
theorem d_Se_settleAll_44 : decode b_Se_settleAll 44 = .ok (.getfield 15, 3) := by decide +kernel
theorem d_Se_settleAll_47 : decode b_Se_settleAll 47 = .ok (.iload 6, 2) := by decide +kernel
theorem d_Se_settleAll_49 : decode b_Se_settleAll 49 = .ok (.iconst 1, 1) := by decide +kernel
theorem d_Se_settleAll_50 : decode b_Se_settleAll 50 = .ok (.bastore, 1) := by decide +kernel
theorem d_Se_settleAll_51 : decode b_Se_settleAll 51 = .ok (.iload 6, 2) := by decide +kernel
theorem d_Se_settleAll_53 : decode b_Se_settleAll 53 = .ok (.iconst 1, 1) := by decide +kernel
theorem d_Se_settleAll_54 : decode b_Se_settleAll 54 = .ok (.iand, 1) := by decide +kernel
theorem d_Se_settleAll_55 : decode b_Se_settleAll 55 = .ok (.iload_n 1, 1) := by decide +kernel
theorem d_Se_settleAll_56 : decode b_Se_settleAll 56 = .ok (.ixor, 1) := by decide +kernel
theorem d_Se_settleAll_57 : decode b_Se_settleAll 57 = .ok (.istore 7, 2) := by decide +kernel
theorem d_Se_settleAll_59 : decode b_Se_settleAll 59 = .ok (.aload_n 0, 1) := by decide +kernel
theorem d_Se_settleAll_60 : decode b_Se_settleAll 60 = .ok (.iload 6, 2) := by decide +kernel
theorem d_Se_settleAll_62 : decode b_Se_settleAll 62 = .ok (.invokevirtual 32, 3) := by decide +kernel
theorem d_Se_settleAll_65 : decode b_Se_settleAll 65 = .ok (.iload_n 2, 1) := by decide +kernel
theorem d_Se_settleAll_66 : decode b_Se_settleAll 66 = .ok (.iconst (-1), 1) := by decide +kernel
theorem d_Se_settleAll_67 : decode b_Se_settleAll 67 = .ok (.ixor, 1) := by decide +kernel
theorem d_Se_settleAll_68 : decode b_Se_settleAll 68 = .ok (.iand, 1) := by decide +kernel
theorem d_Se_settleAll_69 : decode b_Se_settleAll 69 = .ok (.istore 8, 2) := by decide +kernel
theorem d_Se_settleAll_71 : decode b_Se_settleAll 71 = .ok (.iconst 1, 1) := by decide +kernel
theorem d_Se_settleAll_72 : decode b_Se_settleAll 72 = .ok (.istore 9, 2) := by decide +kernel
theorem d_Se_settleAll_74 : decode b_Se_settleAll 74 = .ok (.iload 9, 2) := by decide +kernel
theorem d_Se_settleAll_76 : decode b_Se_settleAll 76 = .ok (.iload 8, 2) := by decide +kernel
theorem d_Se_settleAll_78 : decode b_Se_settleAll 78 = .ok (.if_icmp .gt 93, 3) := by decide +kernel
theorem d_Se_settleAll_81 : decode b_Se_settleAll 81 = .ok (.iload 9, 2) := by decide +kernel
theorem d_Se_settleAll_83 : decode b_Se_settleAll 83 = .ok (.iload 8, 2) := by decide +kernel
theorem d_Se_settleAll_85 : decode b_Se_settleAll 85 = .ok (.iconst (-1), 1) := by decide +kernel
theorem d_Se_settleAll_86 : decode b_Se_settleAll 86 = .ok (.ixor, 1) := by decide +kernel
theorem d_Se_settleAll_87 : decode b_Se_settleAll 87 = .ok (.iand, 1) := by decide +kernel
theorem d_Se_settleAll_88 : decode b_Se_settleAll 88 = .ok (.ifCond .ne 77, 3) := by decide +kernel
theorem d_Se_settleAll_91 : decode b_Se_settleAll 91 = .ok (.aload_n 0, 1) := by decide +kernel
theorem d_Se_settleAll_92 : decode b_Se_settleAll 92 = .ok (.getfield 19, 3) := by decide +kernel
theorem d_Se_settleAll_95 : decode b_Se_settleAll 95 = .ok (.iload 9, 2) := by decide +kernel
theorem d_Se_settleAll_97 : decode b_Se_settleAll 97 = .ok (.iload 7, 2) := by decide +kernel
theorem d_Se_settleAll_99 : decode b_Se_settleAll 99 = .ok (.invokevirtual 41, 3) := by decide +kernel
theorem d_Se_settleAll_102 : decode b_Se_settleAll 102 = .ok (.ifCond .ne 6, 3) := by decide +kernel
theorem d_Se_settleAll_105 : decode b_Se_settleAll 105 = .ok (.goto 60, 3) := by decide +kernel
theorem d_Se_settleAll_108 : decode b_Se_settleAll 108 = .ok (.iload 6, 2) := by decide +kernel
theorem d_Se_settleAll_110 : decode b_Se_settleAll 110 = .ok (.iload 9, 2) := by decide +kernel
theorem d_Se_settleAll_112 : decode b_Se_settleAll 112 = .ok (.invokestatic 45, 3) := by decide +kernel
theorem d_Se_settleAll_115 : decode b_Se_settleAll 115 = .ok (.istore 10, 2) := by decide +kernel
theorem d_Se_settleAll_117 : decode b_Se_settleAll 117 = .ok (.aload_n 0, 1) := by decide +kernel
theorem d_Se_settleAll_118 : decode b_Se_settleAll 118 = .ok (.getfield 11, 3) := by decide +kernel
theorem d_Se_settleAll_121 : decode b_Se_settleAll 121 = .ok (.iload 6, 2) := by decide +kernel
theorem d_Se_settleAll_123 : decode b_Se_settleAll 123 = .ok (.iaload, 1) := by decide +kernel
theorem d_Se_settleAll_124 : decode b_Se_settleAll 124 = .ok (.iload_n 3, 1) := by decide +kernel
theorem d_Se_settleAll_125 : decode b_Se_settleAll 125 = .ok (.ifCond .eq 7, 3) := by decide +kernel
theorem d_Se_settleAll_128 : decode b_Se_settleAll 128 = .ok (.iconst 1, 1) := by decide +kernel
theorem d_Se_settleAll_129 : decode b_Se_settleAll 129 = .ok (.goto 14, 3) := by decide +kernel
theorem d_Se_settleAll_132 : decode b_Se_settleAll 132 = .ok (.aload_n 0, 1) := by decide +kernel
theorem d_Se_settleAll_133 : decode b_Se_settleAll 133 = .ok (.getfield 19, 3) := by decide +kernel
theorem d_Se_settleAll_136 : decode b_Se_settleAll 136 = .ok (.iload 9, 2) := by decide +kernel
theorem d_Se_settleAll_138 : decode b_Se_settleAll 138 = .ok (.iload 7, 2) := by decide +kernel
theorem d_Se_settleAll_140 : decode b_Se_settleAll 140 = .ok (.invokevirtual 49, 3) := by decide +kernel
theorem d_Se_settleAll_143 : decode b_Se_settleAll 143 = .ok (.iadd, 1) := by decide +kernel
theorem d_Se_settleAll_144 : decode b_Se_settleAll 144 = .ok (.istore 11, 2) := by decide +kernel
theorem d_Se_settleAll_146 : decode b_Se_settleAll 146 = .ok (.aload_n 0, 1) := by decide +kernel
theorem d_Se_settleAll_147 : decode b_Se_settleAll 147 = .ok (.getfield 11, 3) := by decide +kernel
theorem d_Se_settleAll_150 : decode b_Se_settleAll 150 = .ok (.iload 10, 2) := by decide +kernel
theorem d_Se_settleAll_152 : decode b_Se_settleAll 152 = .ok (.aload_n 0, 1) := by decide +kernel
theorem d_Se_settleAll_153 : decode b_Se_settleAll 153 = .ok (.getfield 11, 3) := by decide +kernel
theorem d_Se_settleAll_156 : decode b_Se_settleAll 156 = .ok (.iload 10, 2) := by decide +kernel
theorem d_Se_settleAll_158 : decode b_Se_settleAll 158 = .ok (.iaload, 1) := by decide +kernel
theorem d_Se_settleAll_159 : decode b_Se_settleAll 159 = .ok (.iload 11, 2) := by decide +kernel
theorem d_Se_settleAll_161 : decode b_Se_settleAll 161 = .ok (.invokestatic 57, 3) := by decide +kernel
theorem d_Se_settleAll_164 : decode b_Se_settleAll 164 = .ok (.iastore, 1) := by decide +kernel
theorem d_Se_settleAll_165 : decode b_Se_settleAll 165 = .ok (.iinc 9 1, 3) := by decide +kernel
theorem d_Se_settleAll_168 : decode b_Se_settleAll 168 = .ok (.goto (-94), 3) := by decide +kernel
theorem d_Se_settleAll_171 : decode b_Se_settleAll 171 = .ok (.iinc 5 1, 3) := by decide +kernel
theorem d_Se_settleAll_174 : decode b_Se_settleAll 174 = .ok (.goto (-152), 3) := by decide +kernel
theorem d_Se_settleAll_177 : decode b_Se_settleAll 177 = .ok (.return_, 1) := by decide +kernel
def l_Se_settleAll_74 (n : Nat) (E : PE)  (v1 : Int32) (v2 : Int32) (v3 : Int32) (v4 : Int32) (v5 : Int32) (v6 : Int32) (v7 : Int32) (v8 : Int32)  : Nat → Int32 → (Nat → Nat → Int32) → (Nat → Nat → Int32) → (Nat → Nat → Option Nat) → (Nat → Nat) → Option ((Nat → Nat → Int32) × (Nat → Nat → Int32) × (Nat → Nat → Option Nat) × (Nat → Nat))
  | 0, _, _, _, _, _ => none
  | k + 1, v9, F, G, P, N => (if v8 < v9 then some (F, G, P, N) else (if (v9 &&& (v8 ^^^ (-1))) = 0 then (p_Go_canBe n E F G P N v9 v7).bind fun x14 => (if x14 = 0 then some (F, G, P, N) else (p_Se_placeBehind n v6 v9).bind fun x16 => if ix v6 128 then (if v3 = 0 then (p_Go_minutesOf n E F G P N v9 v7).bind fun x21 => some x21 else some 1 : Option (Int32)).bind fun x19 => if ix x16 128 then if ix x16 128 then some (F, (upR G 24 x16.toNatClampNeg ((jmin (G 24 x16.toNatClampNeg) ((G 24 v6.toNatClampNeg) + x19)))), P, N) else none else none else none) else some (F, G, P, N) : Option ((Nat → Nat → Int32) × (Nat → Nat → Int32) × (Nat → Nat → Option Nat) × (Nat → Nat))).bind fun (F9, G10, P11, N12) => l_Se_settleAll_74 n E v1 v2 v3 v4 v5 v6 v7 v8 k (v9 + 1) F9 G10 P11 N12)
set_option maxHeartbeats 4000000 in
theorem wl_Se_settleAll_74 {Q : State → Prop}  {p : Program} {l : Launch} {e : Env} {s : State} {m : MethodId} {args : Array Value} {below : List Frame} {meth : Method} {c : Code} {dC : Nat → ClassId} {dI : Nat → Nat → Nat} {ad : Nat → Nat} {cI cZ cW cJ : ClassId} {A : Nat → Prop} {adK adV : Nat → Nat} {E : PE} (C : cC p s m args c b_Se_settleAll 12 "LanternBridge$Search" dC dI cI cZ cW cJ A adK adV E) (hA : ∀ q, s.heap.size ≤ q → A q) (hr : meth.sig.returnType = none) (hlk : meth.locks = false) (n : Nat)  (v1 : Int32) (v2 : Int32) (v3 : Int32) (v4 : Int32) (v5 : Int32) (v6 : Int32) (v7 : Int32) (v8 : Int32)  : ∀ (k : Nat) (v9 : Int32) (F : Nat → Nat → Int32) (G : Nat → Nat → Int32) (P : Nat → Nat → Option Nat) (N : Nat → Nat) (r0 : Nat → Nat → Int32) (r1 : Nat → Nat → Int32) (r2 : Nat → Nat → Option Nat) (r3 : Nat → Nat), l_Se_settleAll_74 n E v1 v2 v3 v4 v5 v6 v7 v8 k v9 F G P N = some (r0, r1, r2, r3) → (∀ (ls : Array Slot), lv_has ls 12 [(0, .ref (ad 4)), (1, .int v1), (2, .int v2), (3, .int v3), (4, .int v4), (5, .int v5)] → ∀ (H : Heap) (locs : List Loc), cH A s.heap dC dI ad cI cZ cW cJ r0 r1 r2 r3 H locs → W p l e (rL 7) s m args below meth c H locs 0 0 Q (F0 m 171 ls [])) → ∀ (ls : Array Slot), lv_has ls 12 [(0, .ref (ad 4)), (1, .int v1), (2, .int v2), (3, .int v3), (4, .int v4), (5, .int v5), (6, .int v6), (7, .int v7), (8, .int v8), (9, .int v9)] → ∀ (H : Heap) (locs : List Loc), cH A s.heap dC dI ad cI cZ cW cJ F G P N H locs → W p l e (rL 7) s m args below meth c H locs 0 0 Q (F0 m 74 ls []) := by
  obtain ⟨hx, hb, hml, hown, hT, hK, hTS, hTR, hpS, hi⟩ := id C
  intro k
  induction k with
  | zero => intro v9 F G P N r0 r1 r2 r3 hf; exact absurd hf (by unfold l_Se_settleAll_74; exact fun h9 => by cases h9)
  | succ k ih =>
    intro v9 F G P N r0 r1 r2 r3 hf K ls hl H locs h
    unfold l_Se_settleAll_74 at hf
    refine lv_iload hx hb d_Se_settleAll_74 (lv_at hl 9 rfl) ?_
    refine lv_iload hx hb d_Se_settleAll_76 (lv_at hl 8 rfl) ?_
    refine lv_icmp_gt (tgt := 171) hx hb d_Se_settleAll_78 (by decide) (fun hc => ?_) (fun hc => ?_)
    · have hf := op_t hc hf
      obtain ⟨rfl, rfl, rfl, rfl⟩ := op_i4 hf
      exact K ls (lv_sub hl [0, 1, 2, 3, 4, 5] rfl) H locs h
    · have hf := op_f hc hf
      refine lv_iload hx hb d_Se_settleAll_81 (lv_at hl 9 rfl) ?_
      refine lv_iload hx hb d_Se_settleAll_83 (lv_at hl 8 rfl) ?_
      refine lv_iconst (v := (-1)) hx hb d_Se_settleAll_85 (by decide) ?_
      refine lv_ixor hx hb d_Se_settleAll_86 ?_
      refine lv_iand hx hb d_Se_settleAll_87 ?_
      obtain ⟨⟨F9, G10, P11, N12⟩, he, hf⟩ := op_bind hf
      try dsimp only at hf
      have K8 : ∀ (ls : Array Slot), lv_has ls 12 [(0, .ref (ad 4)), (1, .int v1), (2, .int v2), (3, .int v3), (4, .int v4), (5, .int v5), (6, .int v6), (7, .int v7), (8, .int v8), (9, .int v9)] → ∀ (H : Heap) (locs : List Loc), cH A s.heap dC dI ad cI cZ cW cJ F9 G10 P11 N12 H locs → W p l e (rL 7) s m args below meth c H locs 0 0 Q (F0 m 165 ls []) := by
        intro ls hl H locs h
        refine lv_iinc (v := (v9 + 1)) (lv' := [(9, .int (v9 + 1)), (0, .ref (ad 4)), (1, .int v1), (2, .int v2), (3, .int v3), (4, .int v4), (5, .int v5), (6, .int v6), (7, .int v7), (8, .int v8)]) hx hb d_Se_settleAll_165 hl (k := 9) rfl rfl (by decide) rfl (fun ls hl => ?_)
        refine lv_goto (tgt := 74) hx hb d_Se_settleAll_168 (by decide) ?_
        exact ih (v9 + 1) F9 G10 P11 N12 _ _ _ _ hf K ls (lv_sub hl [1, 2, 3, 4, 5, 6, 7, 8, 9, 0] rfl) H locs h
      have hf := he
      refine lv_if_ne (tgt := 165) hx hb d_Se_settleAll_88 (by decide) (fun hc => ?_) (fun hc => ?_)
      · have hf := op_f hc hf
        obtain ⟨rfl, rfl, rfl, rfl⟩ := op_i4 hf
        exact K8 ls (lv_sub hl [0, 1, 2, 3, 4, 5, 6, 7, 8, 9] rfl) H locs h
      · have hf := op_t hc hf
        refine lv_aload_n hx hb d_Se_settleAll_91 rfl (lv_at hl 0 rfl) ?_
        refine cg_4_0 hx hb hT hown hK h.1 fl_Se_19 d_Se_settleAll_92 ?_
        refine lv_iload hx hb d_Se_settleAll_95 (lv_at hl 9 rfl) ?_
        refine lv_iload hx hb d_Se_settleAll_97 (lv_at hl 7 rfl) ?_
        obtain ⟨x14, hc13, hf⟩ := op_bind hf
        refine kr_i (C := R_Go) (b0 := ad 3) (rest := []) hx hb hml hown hT cB_bl (cB_to hK h.1 (cpS hpS h) hi) (va_recv hK h.1 (ci := 1) (q0 := 3) rfl rfl) (c_Go_canBe l n E F G P N dC dI ad cI cZ cW cJ v9 v7 _ hc13) (cbW 2 hT cd_Go_canBe rfl rfl ini_Go ml_Se_41 hd_Go_canBe ⟨Nat.le_of_ble_eq_true rfl, Nat.le_of_ble_eq_true rfl⟩) im_Go_canBe se_Go_Go_canBe__Go_canBe rfl hl.1 rfl (Nat.le_of_ble_eq_true rfl) d_Se_settleAll_99 ⟨Nat.zero_le _, Nat.zero_le _⟩ ?_
        refine lv_if_ne (tgt := 108) hx hb d_Se_settleAll_102 (by decide) (fun hc => ?_) (fun hc => ?_)
        · have hf := op_f hc hf
          refine lv_iload hx hb d_Se_settleAll_108 (lv_at hl 6 rfl) ?_
          refine lv_iload hx hb d_Se_settleAll_110 (lv_at hl 9 rfl) ?_
          obtain ⟨x16, hc15, hf⟩ := op_bind hf
          refine ks_i (rest := []) hx hb hml hown hT (c_Se_placeBehind l n v6 v9 _ hc15) (cbW 2 hT cd_Se_placeBehind rfl rfl ini_Se ml_Se_45 hd_Se_placeBehind ⟨Nat.le_of_ble_eq_true rfl, Nat.le_of_ble_eq_true rfl⟩) sm_Se_placeBehind rfl hl.1 rfl (Nat.le_of_ble_eq_true rfl) d_Se_settleAll_112 ⟨Nat.zero_le _, Nat.zero_le _⟩ ?_
          refine lv_istore (lv' := [(10, .int x16), (0, .ref (ad 4)), (1, .int v1), (2, .int v2), (3, .int v3), (4, .int v4), (5, .int v5), (6, .int v6), (7, .int v7), (8, .int v8), (9, .int v9)]) hx hb d_Se_settleAll_115 hl (by decide) rfl (fun ls hl => ?_)
          refine lv_aload_n hx hb d_Se_settleAll_117 rfl (lv_at hl 1 rfl) ?_
          refine cg_4_1 hx hb hT hown hK h.1 fl_Se_11 d_Se_settleAll_118 ?_
          refine lv_iload hx hb d_Se_settleAll_121 (lv_at hl 7 rfl) ?_
          obtain ⟨h17, hf⟩ := op_if hf
          refine ca_24 hx hb hK h.1 rfl h17 d_Se_settleAll_123 ?_
          refine lv_iload_n hx hb d_Se_settleAll_124 rfl (lv_at hl 4 rfl) ?_
          obtain ⟨x19, he, hf⟩ := op_bind hf
          have K18 : ∀ (ls : Array Slot), lv_has ls 12 [(0, .ref (ad 4)), (1, .int v1), (2, .int v2), (3, .int v3), (4, .int v4), (5, .int v5), (6, .int v6), (7, .int v7), (8, .int v8), (9, .int v9), (10, .int x16)] → ∀ (H : Heap) (locs : List Loc), cH A s.heap dC dI ad cI cZ cW cJ F G P N H locs → W p l e (rL 7) s m args below meth c H locs 0 0 Q (F0 m 143 ls [.int x19, .int (G 24 v6.toNatClampNeg)]) := by
            intro ls hl H locs h
            refine lv_iadd hx hb d_Se_settleAll_143 ?_
            refine lv_istore (lv' := [(11, .int ((G 24 v6.toNatClampNeg) + x19)), (0, .ref (ad 4)), (1, .int v1), (2, .int v2), (3, .int v3), (4, .int v4), (5, .int v5), (6, .int v6), (7, .int v7), (8, .int v8), (9, .int v9), (10, .int x16)]) hx hb d_Se_settleAll_144 hl (by decide) rfl (fun ls hl => ?_)
            refine lv_aload_n hx hb d_Se_settleAll_146 rfl (lv_at hl 1 rfl) ?_
            refine cg_4_1 hx hb hT hown hK h.1 fl_Se_11 d_Se_settleAll_147 ?_
            refine lv_iload hx hb d_Se_settleAll_150 (lv_at hl 11 rfl) ?_
            refine lv_aload_n hx hb d_Se_settleAll_152 rfl (lv_at hl 1 rfl) ?_
            refine cg_4_1 hx hb hT hown hK h.1 fl_Se_11 d_Se_settleAll_153 ?_
            refine lv_iload hx hb d_Se_settleAll_156 (lv_at hl 11 rfl) ?_
            obtain ⟨h22, hf⟩ := op_if hf
            refine ca_24 hx hb hK h.1 rfl h22 d_Se_settleAll_158 ?_
            refine lv_iload hx hb d_Se_settleAll_159 (lv_at hl 0 rfl) ?_
            refine k_jmin hx hb hml hown hl.1 (hT _ ml_Se_57) hT d_Se_settleAll_161 (Nat.le_of_ble_eq_true rfl) (Nat.le_of_ble_eq_true rfl) (Nat.le_of_ble_eq_true rfl) ⟨Nat.zero_le _, Nat.zero_le _⟩ ?_
            obtain ⟨h23, hf⟩ := op_if hf
            refine cs_24 hx hb hK h rfl h23 d_Se_settleAll_164 (fun H locs h => ?_)
            obtain ⟨rfl, rfl, rfl, rfl⟩ := op_i4 hf
            exact K8 ls (lv_sub hl [1, 2, 3, 4, 5, 6, 7, 8, 9, 10] rfl) H locs h
          have hf := he
          refine lv_if_eq (tgt := 132) hx hb d_Se_settleAll_125 (by decide) (fun hc => ?_) (fun hc => ?_)
          · have hf := op_t hc hf
            refine lv_aload_n hx hb d_Se_settleAll_132 rfl (lv_at hl 1 rfl) ?_
            refine cg_4_0 hx hb hT hown hK h.1 fl_Se_19 d_Se_settleAll_133 ?_
            refine lv_iload hx hb d_Se_settleAll_136 (lv_at hl 10 rfl) ?_
            refine lv_iload hx hb d_Se_settleAll_138 (lv_at hl 8 rfl) ?_
            obtain ⟨x21, hc20, hf⟩ := op_bind hf
            refine kr_i (C := R_Go) (b0 := ad 3) (rest := [.int (G 24 v6.toNatClampNeg)]) hx hb hml hown hT cB_bl (cB_to hK h.1 (cpS hpS h) hi) (va_recv hK h.1 (ci := 1) (q0 := 3) rfl rfl) (c_Go_minutesOf l n E F G P N dC dI ad cI cZ cW cJ v9 v7 _ hc20) (cbW 2 hT cd_Go_minutesOf rfl rfl ini_Go ml_Se_49 hd_Go_minutesOf ⟨Nat.le_of_ble_eq_true rfl, Nat.le_of_ble_eq_true rfl⟩) im_Go_minutesOf se_Go_Go_minutesOf__Go_minutesOf rfl hl.1 rfl (Nat.le_of_ble_eq_true rfl) d_Se_settleAll_140 ⟨Nat.zero_le _, Nat.zero_le _⟩ ?_
            obtain rfl := op_i1 hf
            exact K18 ls (lv_sub hl [1, 2, 3, 4, 5, 6, 7, 8, 9, 10, 0] rfl) H locs h
          · have hf := op_f hc hf
            refine lv_iconst (v := 1) hx hb d_Se_settleAll_128 (by decide) ?_
            refine lv_goto (tgt := 143) hx hb d_Se_settleAll_129 (by decide) ?_
            obtain rfl := op_i1 hf
            exact K18 ls (lv_sub hl [1, 2, 3, 4, 5, 6, 7, 8, 9, 10, 0] rfl) H locs h
        · have hf := op_t hc hf
          refine lv_goto (tgt := 165) hx hb d_Se_settleAll_105 (by decide) ?_
          obtain ⟨rfl, rfl, rfl, rfl⟩ := op_i4 hf
          exact K8 ls (lv_sub hl [0, 1, 2, 3, 4, 5, 6, 7, 8, 9] rfl) H locs h
def l_Se_settleAll_22 (n : Nat) (E : PE)  (v1 : Int32) (v2 : Int32) (v3 : Int32) (v4 : Int32)  : Nat → Int32 → (Nat → Nat → Int32) → (Nat → Nat → Int32) → (Nat → Nat → Option Nat) → (Nat → Nat) → Option (CU)
  | 0, _, _, _, _, _ => none
  | k + 1, v5, F, G, P, N => (if v4 ≤ v5 then some (F, G, P, N) else (p_Se_leastUnsettled n E F G P N v4).bind fun x4 => (if 0 ≤ x4 then if ix x4 128 then (p_Se_bankWithLantern n E F (upR G 25 x4.toNatClampNeg (vp_nar .boolean 1)) P N x4).bind fun x7 => (l_Se_settleAll_74 n E v1 v2 v3 v4 v5 x4 ((x4 &&& 1) ^^^ v1) (x7 &&& (v2 ^^^ (-1))) n 1 F (upR G 25 x4.toNatClampNeg (vp_nar .boolean 1)) P N).bind fun (F24, G25, P26, N27) => l_Se_settleAll_22 n E v1 v2 v3 v4 k (v5 + 1) F24 G25 P26 N27 else none else some (F, G, P, N)))
set_option maxHeartbeats 4000000 in
theorem wl_Se_settleAll_22  {p : Program} {l : Launch} {e : Env} {s : State} {m : MethodId} {args : Array Value} {below : List Frame} {meth : Method} {c : Code} {dC : Nat → ClassId} {dI : Nat → Nat → Nat} {ad : Nat → Nat} {cI cZ cW cJ : ClassId} {A : Nat → Prop} {adK adV : Nat → Nat} {E : PE} (C : cC p s m args c b_Se_settleAll 12 "LanternBridge$Search" dC dI cI cZ cW cJ A adK adV E) (hA : ∀ q, s.heap.size ≤ q → A q) (hr : meth.sig.returnType = none) (hlk : meth.locks = false) (n : Nat)  (v1 : Int32) (v2 : Int32) (v3 : Int32) (v4 : Int32)  : ∀ (k : Nat) (v5 : Int32) (F : Nat → Nat → Int32) (G : Nat → Nat → Int32) (P : Nat → Nat → Option Nat) (N : Nat → Nat) (z : CU), l_Se_settleAll_22 n E v1 v2 v3 v4 k v5 F G P N = some z → ∀ (ls : Array Slot), lv_has ls 12 [(0, .ref (ad 4)), (1, .int v1), (2, .int v2), (3, .int v3), (4, .int v4), (5, .int v5)] → ∀ (H : Heap) (locs : List Loc), cH A s.heap dC dI ad cI cZ cW cJ F G P N H locs → W p l e (rL 7) s m args below meth c H locs 0 0 (cQv dC dI ad cI cZ cW cJ A below args s z) (F0 m 22 ls []) := by
  obtain ⟨hx, hb, hml, hown, hT, hK, hTS, hTR, hpS, hi⟩ := id C
  intro k
  induction k with
  | zero => intro v5 F G P N z hf; exact absurd hf (by unfold l_Se_settleAll_22; exact fun h9 => by cases h9)
  | succ k ih =>
    intro v5 F G P N z hf ls hl H locs h
    unfold l_Se_settleAll_22 at hf
    refine lv_iload hx hb d_Se_settleAll_22 (lv_at hl 5 rfl) ?_
    refine lv_iload hx hb d_Se_settleAll_24 (lv_at hl 4 rfl) ?_
    refine lv_icmp_ge (tgt := 177) hx hb d_Se_settleAll_26 (by decide) (fun hc => ?_) (fun hc => ?_)
    · have hf := op_t hc hf
      exact rt_cv C h hr hlk hf d_Se_settleAll_177
    · have hf := op_f hc hf
      refine lv_aload_n hx hb d_Se_settleAll_29 rfl (lv_at hl 0 rfl) ?_
      refine lv_iload hx hb d_Se_settleAll_30 (lv_at hl 4 rfl) ?_
      obtain ⟨x4, hc3, hf⟩ := op_bind hf
      refine kr_i (C := R_Se) (b0 := ad 4) (rest := []) hx hb hml hown hT cB_bl (cB_to hK h.1 (cpS hpS h) hi) (va_recv hK h.1 (ci := 6) (q0 := 4) rfl rfl) (c_Se_leastUnsettled l n E F G P N dC dI ad cI cZ cW cJ v4 _ hc3) (cbW 1 hT cd_Se_leastUnsettled rfl rfl ini_Se ml_Se_62 hd_Se_leastUnsettled ⟨Nat.le_of_ble_eq_true rfl, Nat.le_of_ble_eq_true rfl⟩) im_Se_leastUnsettled sp_Se_leastUnsettled rfl hl.1 rfl (Nat.le_of_ble_eq_true rfl) d_Se_settleAll_32 ⟨Nat.zero_le _, Nat.zero_le _⟩ ?_
      refine lv_istore (lv' := [(6, .int x4), (0, .ref (ad 4)), (1, .int v1), (2, .int v2), (3, .int v3), (4, .int v4), (5, .int v5)]) hx hb d_Se_settleAll_35 hl (by decide) rfl (fun ls hl => ?_)
      refine lv_iload hx hb d_Se_settleAll_37 (lv_at hl 0 rfl) ?_
      refine lv_if_ge (tgt := 43) hx hb d_Se_settleAll_39 (by decide) (fun hc => ?_) (fun hc => ?_)
      · have hf := op_t hc hf
        refine lv_aload_n hx hb d_Se_settleAll_43 rfl (lv_at hl 1 rfl) ?_
        refine cg_4_2 hx hb hT hown hK h.1 fl_Se_15 d_Se_settleAll_44 ?_
        refine lv_iload hx hb d_Se_settleAll_47 (lv_at hl 0 rfl) ?_
        refine lv_iconst (v := 1) hx hb d_Se_settleAll_49 (by decide) ?_
        obtain ⟨h5, hf⟩ := op_if hf
        refine cs_25 hx hb hK h rfl h5 d_Se_settleAll_50 (fun H locs h => ?_)
        refine lv_iload hx hb d_Se_settleAll_51 (lv_at hl 0 rfl) ?_
        refine lv_iconst (v := 1) hx hb d_Se_settleAll_53 (by decide) ?_
        refine lv_iand hx hb d_Se_settleAll_54 ?_
        refine lv_iload_n hx hb d_Se_settleAll_55 rfl (lv_at hl 2 rfl) ?_
        refine lv_ixor hx hb d_Se_settleAll_56 ?_
        refine lv_istore (lv' := [(7, .int ((x4 &&& 1) ^^^ v1)), (6, .int x4), (0, .ref (ad 4)), (1, .int v1), (2, .int v2), (3, .int v3), (4, .int v4), (5, .int v5)]) hx hb d_Se_settleAll_57 hl (by decide) rfl (fun ls hl => ?_)
        refine lv_aload_n hx hb d_Se_settleAll_59 rfl (lv_at hl 2 rfl) ?_
        refine lv_iload hx hb d_Se_settleAll_60 (lv_at hl 1 rfl) ?_
        obtain ⟨x7, hc6, hf⟩ := op_bind hf
        refine kr_i (C := R_Se) (b0 := ad 4) (rest := []) hx hb hml hown hT cB_bl (cB_to hK h.1 (cpS hpS h) hi) (va_recv hK h.1 (ci := 6) (q0 := 4) rfl rfl) (c_Se_bankWithLantern l n E F (upR G 25 x4.toNatClampNeg (vp_nar .boolean 1)) P N dC dI ad cI cZ cW cJ x4 _ hc6) (cbW 1 hT cd_Se_bankWithLantern rfl rfl ini_Se ml_Se_32 hd_Se_bankWithLantern ⟨Nat.le_of_ble_eq_true rfl, Nat.le_of_ble_eq_true rfl⟩) im_Se_bankWithLantern sp_Se_bankWithLantern rfl hl.1 rfl (Nat.le_of_ble_eq_true rfl) d_Se_settleAll_62 ⟨Nat.zero_le _, Nat.zero_le _⟩ ?_
        refine lv_iload_n hx hb d_Se_settleAll_65 rfl (lv_at hl 4 rfl) ?_
        refine lv_iconst (v := (-1)) hx hb d_Se_settleAll_66 (by decide) ?_
        refine lv_ixor hx hb d_Se_settleAll_67 ?_
        refine lv_iand hx hb d_Se_settleAll_68 ?_
        refine lv_istore (lv' := [(8, .int (x7 &&& (v2 ^^^ (-1)))), (7, .int ((x4 &&& 1) ^^^ v1)), (6, .int x4), (0, .ref (ad 4)), (1, .int v1), (2, .int v2), (3, .int v3), (4, .int v4), (5, .int v5)]) hx hb d_Se_settleAll_69 hl (by decide) rfl (fun ls hl => ?_)
        refine lv_iconst (v := 1) hx hb d_Se_settleAll_71 (by decide) ?_
        refine lv_istore (lv' := [(9, .int 1), (8, .int (x7 &&& (v2 ^^^ (-1)))), (7, .int ((x4 &&& 1) ^^^ v1)), (6, .int x4), (0, .ref (ad 4)), (1, .int v1), (2, .int v2), (3, .int v3), (4, .int v4), (5, .int v5)]) hx hb d_Se_settleAll_72 hl (by decide) rfl (fun ls hl => ?_)
        obtain ⟨⟨F24, G25, P26, N27⟩, he, hf⟩ := op_bind hf
        try dsimp only at hf
        refine wl_Se_settleAll_74 C hA hr hlk n v1 v2 v3 v4 v5 x4 ((x4 &&& 1) ^^^ v1) (x7 &&& (v2 ^^^ (-1))) n 1 F (upR G 25 x4.toNatClampNeg (vp_nar .boolean 1)) P N _ _ _ _ he (fun ls hl H locs h => ?_) ls (lv_sub hl [4, 5, 6, 7, 8, 9, 3, 2, 1, 0] rfl) H locs h
        refine lv_iinc (v := (v5 + 1)) (lv' := [(5, .int (v5 + 1)), (0, .ref (ad 4)), (1, .int v1), (2, .int v2), (3, .int v3), (4, .int v4)]) hx hb d_Se_settleAll_171 hl (k := 5) rfl rfl (by decide) rfl (fun ls hl => ?_)
        refine lv_goto (tgt := 22) hx hb d_Se_settleAll_174 (by decide) ?_
        exact ih (v5 + 1) F24 G25 P26 N27 _ hf ls (lv_sub hl [1, 2, 3, 4, 5, 0] rfl) H locs h
      · have hf := op_f hc hf
        exact rt_cv C h hr hlk hf d_Se_settleAll_42
def p_Se_settleAll (n : Nat) (E : PE) (v1 : Int32) (v2 : Int32) (v3 : Int32) (F : Nat → Nat → Int32) (G : Nat → Nat → Int32) (P : Nat → Nat → Option Nat) (N : Nat → Nat) : Option (CU) := (p_Go_everybody n E F G P N ).bind fun x2 => l_Se_settleAll_22 n E v1 v2 v3 (jmin 128 (2 * (x2 + 1))) n 0 F G P N
set_option maxHeartbeats 4000000 in
theorem c_Se_settleAll (l : Launch) (n : Nat) (E : PE) (v1 : Int32) (v2 : Int32) (v3 : Int32) (F : Nat → Nat → Int32) (G : Nat → Nat → Int32) (P : Nat → Nat → Option Nat) (N : Nat → Nat)  : CMv l y_Se_settleAll b_Se_settleAll 12 (rL 7) E (fun ad => [.ref (ad 4), .int v1, .int v2, .int v3]) F G P N (p_Se_settleAll n E v1 v2 v3 F G P N) := by
  refine en_cv (by decide) (fun _ => Nat.le_of_ble_eq_true rfl) ?_
  intro z hf p e s m args below meth c dC dI ad cI cZ cW cJ A adK adV ls C hA h hr hlk hl
  have hl : lv_has ls 12 [(0, .ref (ad 4)), (1, .int v1), (2, .int v2), (3, .int v3)] := hl
  unfold p_Se_settleAll at hf
  obtain ⟨hx, hb, hml, hown, hT, hK, hTS, hTR, hpS, hi⟩ := id C
  refine lv_sipush (v := 128) hx hb d_Se_settleAll_0 (by decide) ?_
  refine lv_iconst (v := 2) hx hb d_Se_settleAll_3 (by decide) ?_
  refine lv_aload_n hx hb d_Se_settleAll_4 rfl (lv_at hl 0 rfl) ?_
  refine cg_4_0 hx hb hT hown hK h.1 fl_Se_19 d_Se_settleAll_5 ?_
  obtain ⟨x2, hc1, hf⟩ := op_bind hf
  refine kr_i (C := R_Go) (b0 := ad 3) (rest := [.int 2, .int 128]) hx hb hml hown hT cB_bl (cB_to hK h.1 (cpS hpS h) hi) (va_recv hK h.1 (ci := 1) (q0 := 3) rfl rfl) (c_Go_everybody l n E F G P N dC dI ad cI cZ cW cJ  _ hc1) (cbW 0 hT cd_Go_everybody rfl rfl ini_Go ml_Se_35 hd_Go_everybody ⟨Nat.le_of_ble_eq_true rfl, Nat.le_of_ble_eq_true rfl⟩) im_Go_everybody se_Go_Go_everybody__Go_everybody rfl hl.1 rfl (Nat.le_of_ble_eq_true rfl) d_Se_settleAll_8 ⟨Nat.zero_le _, Nat.zero_le _⟩ ?_
  refine lv_iconst (v := 1) hx hb d_Se_settleAll_11 (by decide) ?_
  refine lv_iadd hx hb d_Se_settleAll_12 ?_
  refine lv_imul hx hb d_Se_settleAll_13 ?_
  refine k_jmin hx hb hml hown hl.1 (hT _ ml_Se_57) hT d_Se_settleAll_14 (Nat.le_of_ble_eq_true rfl) (Nat.le_of_ble_eq_true rfl) (Nat.le_of_ble_eq_true rfl) ⟨Nat.zero_le _, Nat.zero_le _⟩ ?_
  refine lv_istore (lv' := [(4, .int (jmin 128 (2 * (x2 + 1)))), (0, .ref (ad 4)), (1, .int v1), (2, .int v2), (3, .int v3)]) hx hb d_Se_settleAll_17 hl (by decide) rfl (fun ls hl => ?_)
  refine lv_iconst (v := 0) hx hb d_Se_settleAll_19 (by decide) ?_
  refine lv_istore (lv' := [(5, .int 0), (4, .int (jmin 128 (2 * (x2 + 1)))), (0, .ref (ad 4)), (1, .int v1), (2, .int v2), (3, .int v3)]) hx hb d_Se_settleAll_20 hl (by decide) rfl (fun ls hl => ?_)
  exact wl_Se_settleAll_22 C hA hr hlk n v1 v2 v3 (jmin 128 (2 * (x2 + 1))) n 0 F G P N _ hf ls (lv_sub hl [2, 3, 4, 5, 1, 0] rfl) s.heap [] h
theorem hd_Se_measureTo : y_Se_measureTo.cls ≠ "java/lang/invoke/MethodHandle" ∧ y_Se_measureTo.cls ≠ "java/lang/invoke/VarHandle" ∧ (parseMethodDescriptor y_Se_measureTo.desc).map (fun d => d.parameters.length) = some 3 := by decide +kernel
theorem d_Se_measureTo_0 : decode b_Se_measureTo 0 = .ok (.iconst 0, 1) := by decide +kernel
theorem d_Se_measureTo_1 : decode b_Se_measureTo 1 = .ok (.istore 4, 2) := by decide +kernel
theorem d_Se_measureTo_3 : decode b_Se_measureTo 3 = .ok (.iload 4, 2) := by decide +kernel
theorem d_Se_measureTo_5 : decode b_Se_measureTo 5 = .ok (.sipush 128, 3) := by decide +kernel
theorem d_Se_measureTo_8 : decode b_Se_measureTo 8 = .ok (.if_icmp .ge 41, 3) := by decide +kernel
theorem d_Se_measureTo_11 : decode b_Se_measureTo 11 = .ok (.aload_n 0, 1) := by decide +kernel
theorem d_Se_measureTo_12 : decode b_Se_measureTo 12 = .ok (.getfield 11, 3) := by decide +kernel
theorem d_Se_measureTo_15 : decode b_Se_measureTo 15 = .ok (.iload 4, 2) := by decide +kernel
theorem d_Se_measureTo_17 : decode b_Se_measureTo 17 = .ok (.iload_n 1, 1) := by decide +kernel
theorem d_Se_measureTo_18 : decode b_Se_measureTo 18 = .ok (.iload 4, 2) := by decide +kernel
theorem d_Se_measureTo_20 : decode b_Se_measureTo 20 = .ok (.iconst 1, 1) := by decide +kernel
theorem d_Se_measureTo_21 : decode b_Se_measureTo 21 = .ok (.ishr, 1) := by decide +kernel
theorem d_Se_measureTo_22 : decode b_Se_measureTo 22 = .ok (.iconst (-1), 1) := by decide +kernel
theorem d_Se_measureTo_23 : decode b_Se_measureTo 23 = .ok (.ixor, 1) := by decide +kernel
theorem d_Se_measureTo_24 : decode b_Se_measureTo 24 = .ok (.iand, 1) := by decide +kernel
theorem d_Se_measureTo_25 : decode b_Se_measureTo 25 = .ok (.ifCond .ne 7, 3) := by decide +kernel
theorem d_Se_measureTo_28 : decode b_Se_measureTo 28 = .ok (.iconst 0, 1) := by decide +kernel
theorem d_Se_measureTo_29 : decode b_Se_measureTo 29 = .ok (.goto 5, 3) := by decide +kernel
theorem d_Se_measureTo_32 : decode b_Se_measureTo 32 = .ok (.ldc 23, 2) := by decide +kernel
theorem d_Se_measureTo_34 : decode b_Se_measureTo 34 = .ok (.iastore, 1) := by decide +kernel
theorem d_Se_measureTo_35 : decode b_Se_measureTo 35 = .ok (.aload_n 0, 1) := by decide +kernel
theorem d_Se_measureTo_36 : decode b_Se_measureTo 36 = .ok (.getfield 15, 3) := by decide +kernel
theorem d_Se_measureTo_39 : decode b_Se_measureTo 39 = .ok (.iload 4, 2) := by decide +kernel
theorem d_Se_measureTo_41 : decode b_Se_measureTo 41 = .ok (.iconst 0, 1) := by decide +kernel
theorem d_Se_measureTo_42 : decode b_Se_measureTo 42 = .ok (.bastore, 1) := by decide +kernel
theorem d_Se_measureTo_43 : decode b_Se_measureTo 43 = .ok (.iinc 4 1, 3) := by decide +kernel
theorem d_Se_measureTo_46 : decode b_Se_measureTo 46 = .ok (.goto (-43), 3) := by decide +kernel
theorem d_Se_measureTo_49 : decode b_Se_measureTo 49 = .ok (.aload_n 0, 1) := by decide +kernel
theorem d_Se_measureTo_50 : decode b_Se_measureTo 50 = .ok (.iconst 1, 1) := by decide +kernel
theorem d_Se_measureTo_51 : decode b_Se_measureTo 51 = .ok (.iload_n 2, 1) := by decide +kernel
theorem d_Se_measureTo_52 : decode b_Se_measureTo 52 = .ok (.iload_n 3, 1) := by decide +kernel
theorem d_Se_measureTo_53 : decode b_Se_measureTo 53 = .ok (.invokevirtual 24, 3) := by decide +kernel
theorem d_Se_measureTo_56 : decode b_Se_measureTo 56 = .ok (.return_, 1) := by decide +kernel
def l_Se_measureTo_3 (n : Nat) (E : PE)  (v1 : Int32) (v2 : Int32) (v3 : Int32)  : Nat → Int32 → (Nat → Nat → Int32) → (Nat → Nat → Int32) → (Nat → Nat → Option Nat) → (Nat → Nat) → Option ((Nat → Nat → Int32) × (Nat → Nat → Int32) × (Nat → Nat → Option Nat) × (Nat → Nat))
  | 0, _, _, _, _, _ => none
  | k + 1, v4, F, G, P, N => (if 128 ≤ v4 then some (F, G, P, N) else (if (v1 &&& ((v4 >>> (1 &&& 31)) ^^^ (-1))) = 0 then some 0 else some 1073741824 : Option (Int32)).bind fun x2 => if ix v4 128 then if ix v4 128 then l_Se_measureTo_3 n E v1 v2 v3 k (v4 + 1) F ((upR (upR G 24 v4.toNatClampNeg x2) 25 v4.toNatClampNeg (vp_nar .boolean 0))) P N else none else none)
set_option maxHeartbeats 4000000 in
theorem wl_Se_measureTo_3 {Q : State → Prop}  {p : Program} {l : Launch} {e : Env} {s : State} {m : MethodId} {args : Array Value} {below : List Frame} {meth : Method} {c : Code} {dC : Nat → ClassId} {dI : Nat → Nat → Nat} {ad : Nat → Nat} {cI cZ cW cJ : ClassId} {A : Nat → Prop} {adK adV : Nat → Nat} {E : PE} (C : cC p s m args c b_Se_measureTo 5 "LanternBridge$Search" dC dI cI cZ cW cJ A adK adV E) (hA : ∀ q, s.heap.size ≤ q → A q) (hr : meth.sig.returnType = none) (hlk : meth.locks = false) (n : Nat)  (v1 : Int32) (v2 : Int32) (v3 : Int32)  : ∀ (k : Nat) (v4 : Int32) (F : Nat → Nat → Int32) (G : Nat → Nat → Int32) (P : Nat → Nat → Option Nat) (N : Nat → Nat) (r0 : Nat → Nat → Int32) (r1 : Nat → Nat → Int32) (r2 : Nat → Nat → Option Nat) (r3 : Nat → Nat), l_Se_measureTo_3 n E v1 v2 v3 k v4 F G P N = some (r0, r1, r2, r3) → (∀ (ls : Array Slot), lv_has ls 5 [(0, .ref (ad 4)), (2, .int v2), (3, .int v3)] → ∀ (H : Heap) (locs : List Loc), cH A s.heap dC dI ad cI cZ cW cJ r0 r1 r2 r3 H locs → W p l e (rL 8) s m args below meth c H locs 0 0 Q (F0 m 49 ls [])) → ∀ (ls : Array Slot), lv_has ls 5 [(0, .ref (ad 4)), (1, .int v1), (2, .int v2), (3, .int v3), (4, .int v4)] → ∀ (H : Heap) (locs : List Loc), cH A s.heap dC dI ad cI cZ cW cJ F G P N H locs → W p l e (rL 8) s m args below meth c H locs 0 0 Q (F0 m 3 ls []) := by
  obtain ⟨hx, hb, hml, hown, hT, hK, hTS, hTR, hpS, hi⟩ := id C
  intro k
  induction k with
  | zero => intro v4 F G P N r0 r1 r2 r3 hf; exact absurd hf (by unfold l_Se_measureTo_3; exact fun h9 => by cases h9)
  | succ k ih =>
    intro v4 F G P N r0 r1 r2 r3 hf K ls hl H locs h
    unfold l_Se_measureTo_3 at hf
    refine lv_iload hx hb d_Se_measureTo_3 (lv_at hl 4 rfl) ?_
    refine lv_sipush (v := 128) hx hb d_Se_measureTo_5 (by decide) ?_
    refine lv_icmp_ge (tgt := 49) hx hb d_Se_measureTo_8 (by decide) (fun hc => ?_) (fun hc => ?_)
    · have hf := op_t hc hf
      obtain ⟨rfl, rfl, rfl, rfl⟩ := op_i4 hf
      exact K ls (lv_sub hl [0, 2, 3] rfl) H locs h
    · have hf := op_f hc hf
      refine lv_aload_n hx hb d_Se_measureTo_11 rfl (lv_at hl 0 rfl) ?_
      refine cg_4_1 hx hb hT hown hK h.1 fl_Se_11 d_Se_measureTo_12 ?_
      refine lv_iload hx hb d_Se_measureTo_15 (lv_at hl 4 rfl) ?_
      refine lv_iload_n hx hb d_Se_measureTo_17 rfl (lv_at hl 1 rfl) ?_
      refine lv_iload hx hb d_Se_measureTo_18 (lv_at hl 4 rfl) ?_
      refine lv_iconst (v := 1) hx hb d_Se_measureTo_20 (by decide) ?_
      refine lv_ishr hx hb d_Se_measureTo_21 ?_
      refine lv_iconst (v := (-1)) hx hb d_Se_measureTo_22 (by decide) ?_
      refine lv_ixor hx hb d_Se_measureTo_23 ?_
      refine lv_iand hx hb d_Se_measureTo_24 ?_
      obtain ⟨x2, he, hf⟩ := op_bind hf
      have K1 : ∀ (ls : Array Slot), lv_has ls 5 [(0, .ref (ad 4)), (1, .int v1), (2, .int v2), (3, .int v3), (4, .int v4)] → ∀ (H : Heap) (locs : List Loc), cH A s.heap dC dI ad cI cZ cW cJ F G P N H locs → W p l e (rL 8) s m args below meth c H locs 0 0 Q (F0 m 34 ls [.int x2, .int v4, .ref (ad 24)]) := by
        intro ls hl H locs h
        obtain ⟨h3, hf⟩ := op_if hf
        refine cs_24 hx hb hK h rfl h3 d_Se_measureTo_34 (fun H locs h => ?_)
        refine lv_aload_n hx hb d_Se_measureTo_35 rfl (lv_at hl 0 rfl) ?_
        refine cg_4_2 hx hb hT hown hK h.1 fl_Se_15 d_Se_measureTo_36 ?_
        refine lv_iload hx hb d_Se_measureTo_39 (lv_at hl 4 rfl) ?_
        refine lv_iconst (v := 0) hx hb d_Se_measureTo_41 (by decide) ?_
        obtain ⟨h4, hf⟩ := op_if hf
        refine cs_25 hx hb hK h rfl h4 d_Se_measureTo_42 (fun H locs h => ?_)
        refine lv_iinc (v := (v4 + 1)) (lv' := [(4, .int (v4 + 1)), (0, .ref (ad 4)), (1, .int v1), (2, .int v2), (3, .int v3)]) hx hb d_Se_measureTo_43 hl (k := 4) rfl rfl (by decide) rfl (fun ls hl => ?_)
        refine lv_goto (tgt := 3) hx hb d_Se_measureTo_46 (by decide) ?_
        exact ih (v4 + 1) F ((upR (upR G 24 v4.toNatClampNeg x2) 25 v4.toNatClampNeg (vp_nar .boolean 0))) P N _ _ _ _ hf K ls (lv_sub hl [1, 2, 3, 4, 0] rfl) H locs h
      have hf := he
      refine lv_if_ne (tgt := 32) hx hb d_Se_measureTo_25 (by decide) (fun hc => ?_) (fun hc => ?_)
      · have hf := op_f hc hf
        refine lv_ldc (v := 1073741824) hx hb hown (hT _ ko_Se_23) d_Se_measureTo_32 ?_
        obtain rfl := op_i1 hf
        exact K1 ls (lv_sub hl [0, 1, 2, 3, 4] rfl) H locs h
      · have hf := op_t hc hf
        refine lv_iconst (v := 0) hx hb d_Se_measureTo_28 (by decide) ?_
        refine lv_goto (tgt := 34) hx hb d_Se_measureTo_29 (by decide) ?_
        obtain rfl := op_i1 hf
        exact K1 ls (lv_sub hl [0, 1, 2, 3, 4] rfl) H locs h
def p_Se_measureTo (n : Nat) (E : PE) (v1 : Int32) (v2 : Int32) (v3 : Int32) (F : Nat → Nat → Int32) (G : Nat → Nat → Int32) (P : Nat → Nat → Option Nat) (N : Nat → Nat) : Option (CU) := (l_Se_measureTo_3 n E v1 v2 v3 n 0 F G P N).bind fun (F5, G6, P7, N8) => (p_Se_settleAll n E 1 v2 v3 F5 G6 P7 N8).bind fun (F11, G12, P13, N14) => some (F11, G12, P13, N14)
set_option maxHeartbeats 4000000 in
theorem c_Se_measureTo (l : Launch) (n : Nat) (E : PE) (v1 : Int32) (v2 : Int32) (v3 : Int32) (F : Nat → Nat → Int32) (G : Nat → Nat → Int32) (P : Nat → Nat → Option Nat) (N : Nat → Nat)  : CMv l y_Se_measureTo b_Se_measureTo 5 (rL 8) E (fun ad => [.ref (ad 4), .int v1, .int v2, .int v3]) F G P N (p_Se_measureTo n E v1 v2 v3 F G P N) := by
  refine en_cv (by decide) (fun _ => Nat.le_of_ble_eq_true rfl) ?_
  intro z hf p e s m args below meth c dC dI ad cI cZ cW cJ A adK adV ls C hA h hr hlk hl
  have hl : lv_has ls 5 [(0, .ref (ad 4)), (1, .int v1), (2, .int v2), (3, .int v3)] := hl
  unfold p_Se_measureTo at hf
  obtain ⟨hx, hb, hml, hown, hT, hK, hTS, hTR, hpS, hi⟩ := id C
  refine lv_iconst (v := 0) hx hb d_Se_measureTo_0 (by decide) ?_
  refine lv_istore (lv' := [(4, .int 0), (0, .ref (ad 4)), (1, .int v1), (2, .int v2), (3, .int v3)]) hx hb d_Se_measureTo_1 hl (by decide) rfl (fun ls hl => ?_)
  obtain ⟨⟨F5, G6, P7, N8⟩, he, hf⟩ := op_bind hf
  try dsimp only at hf
  refine wl_Se_measureTo_3 C hA hr hlk n v1 v2 v3 n 0 F G P N _ _ _ _ he (fun ls hl H locs h => ?_) ls (lv_sub hl [1, 2, 3, 4, 0] rfl) s.heap [] h
  refine lv_aload_n hx hb d_Se_measureTo_49 rfl (lv_at hl 0 rfl) ?_
  refine lv_iconst (v := 1) hx hb d_Se_measureTo_50 (by decide) ?_
  refine lv_iload_n hx hb d_Se_measureTo_51 rfl (lv_at hl 1 rfl) ?_
  refine lv_iload_n hx hb d_Se_measureTo_52 rfl (lv_at hl 2 rfl) ?_
  obtain ⟨⟨F11, G12, P13, N14⟩, hc9, hf⟩ := op_bind hf
  try dsimp only at hf
  refine kx_v (C0 := R_Se) (b0 := ad 4) (rest := []) C h hA rfl (va_recv hK h.1 (ci := 6) (q0 := 4) rfl rfl) (c_Se_settleAll l n E 1 v2 v3 F5 G6 P7 N8) hc9 (cbW 3 hT cd_Se_settleAll rfl rfl ini_Se ml_Se_24 hd_Se_settleAll ⟨Nat.le_of_ble_eq_true rfl, Nat.le_of_ble_eq_true rfl⟩) im_Se_settleAll sp_Se_settleAll rfl hl.1 rfl (Nat.le_of_ble_eq_true rfl) d_Se_measureTo_53 ⟨Nat.zero_le _, Nat.zero_le _⟩ (fun H locs h => ?_)
  exact rt_cv C h hr hlk hf d_Se_measureTo_56
theorem hd_Se_measureFrom : y_Se_measureFrom.cls ≠ "java/lang/invoke/MethodHandle" ∧ y_Se_measureFrom.cls ≠ "java/lang/invoke/VarHandle" ∧ (parseMethodDescriptor y_Se_measureFrom.desc).map (fun d => d.parameters.length) = some 1 := by decide +kernel
theorem d_Se_measureFrom_0 : decode b_Se_measureFrom 0 = .ok (.iconst 0, 1) := by decide +kernel
theorem d_Se_measureFrom_1 : decode b_Se_measureFrom 1 = .ok (.istore_n 2, 1) := by decide +kernel
theorem d_Se_measureFrom_2 : decode b_Se_measureFrom 2 = .ok (.iload_n 2, 1) := by decide +kernel
theorem d_Se_measureFrom_3 : decode b_Se_measureFrom 3 = .ok (.sipush 128, 3) := by decide +kernel
theorem d_Se_measureFrom_6 : decode b_Se_measureFrom 6 = .ok (.if_icmp .ge 33, 3) := by decide +kernel
theorem d_Se_measureFrom_9 : decode b_Se_measureFrom 9 = .ok (.aload_n 0, 1) := by decide +kernel
theorem d_Se_measureFrom_10 : decode b_Se_measureFrom 10 = .ok (.getfield 11, 3) := by decide +kernel
theorem d_Se_measureFrom_13 : decode b_Se_measureFrom 13 = .ok (.iload_n 2, 1) := by decide +kernel
theorem d_Se_measureFrom_14 : decode b_Se_measureFrom 14 = .ok (.iload_n 2, 1) := by decide +kernel
theorem d_Se_measureFrom_15 : decode b_Se_measureFrom 15 = .ok (.iload_n 1, 1) := by decide +kernel
theorem d_Se_measureFrom_16 : decode b_Se_measureFrom 16 = .ok (.if_icmp .ne 7, 3) := by decide +kernel
theorem d_Se_measureFrom_19 : decode b_Se_measureFrom 19 = .ok (.iconst 0, 1) := by decide +kernel
theorem d_Se_measureFrom_20 : decode b_Se_measureFrom 20 = .ok (.goto 5, 3) := by decide +kernel
theorem d_Se_measureFrom_23 : decode b_Se_measureFrom 23 = .ok (.ldc 23, 2) := by decide +kernel
theorem d_Se_measureFrom_25 : decode b_Se_measureFrom 25 = .ok (.iastore, 1) := by decide +kernel
theorem d_Se_measureFrom_26 : decode b_Se_measureFrom 26 = .ok (.aload_n 0, 1) := by decide +kernel
theorem d_Se_measureFrom_27 : decode b_Se_measureFrom 27 = .ok (.getfield 15, 3) := by decide +kernel
theorem d_Se_measureFrom_30 : decode b_Se_measureFrom 30 = .ok (.iload_n 2, 1) := by decide +kernel
theorem d_Se_measureFrom_31 : decode b_Se_measureFrom 31 = .ok (.iconst 0, 1) := by decide +kernel
theorem d_Se_measureFrom_32 : decode b_Se_measureFrom 32 = .ok (.bastore, 1) := by decide +kernel
theorem d_Se_measureFrom_33 : decode b_Se_measureFrom 33 = .ok (.iinc 2 1, 3) := by decide +kernel
theorem d_Se_measureFrom_36 : decode b_Se_measureFrom 36 = .ok (.goto (-34), 3) := by decide +kernel
theorem d_Se_measureFrom_39 : decode b_Se_measureFrom 39 = .ok (.aload_n 0, 1) := by decide +kernel
theorem d_Se_measureFrom_40 : decode b_Se_measureFrom 40 = .ok (.iconst 0, 1) := by decide +kernel
theorem d_Se_measureFrom_41 : decode b_Se_measureFrom 41 = .ok (.iconst 0, 1) := by decide +kernel
theorem d_Se_measureFrom_42 : decode b_Se_measureFrom 42 = .ok (.iconst 0, 1) := by decide +kernel
theorem d_Se_measureFrom_43 : decode b_Se_measureFrom 43 = .ok (.invokevirtual 24, 3) := by decide +kernel
theorem d_Se_measureFrom_46 : decode b_Se_measureFrom 46 = .ok (.return_, 1) := by decide +kernel
def l_Se_measureFrom_2 (n : Nat) (E : PE)  (v1 : Int32)  : Nat → Int32 → (Nat → Nat → Int32) → (Nat → Nat → Int32) → (Nat → Nat → Option Nat) → (Nat → Nat) → Option ((Nat → Nat → Int32) × (Nat → Nat → Int32) × (Nat → Nat → Option Nat) × (Nat → Nat))
  | 0, _, _, _, _, _ => none
  | k + 1, v2, F, G, P, N => (if 128 ≤ v2 then some (F, G, P, N) else (if v2 = v1 then some 0 else some 1073741824 : Option (Int32)).bind fun x2 => if ix v2 128 then if ix v2 128 then l_Se_measureFrom_2 n E v1 k (v2 + 1) F ((upR (upR G 24 v2.toNatClampNeg x2) 25 v2.toNatClampNeg (vp_nar .boolean 0))) P N else none else none)
set_option maxHeartbeats 4000000 in
theorem wl_Se_measureFrom_2 {Q : State → Prop}  {p : Program} {l : Launch} {e : Env} {s : State} {m : MethodId} {args : Array Value} {below : List Frame} {meth : Method} {c : Code} {dC : Nat → ClassId} {dI : Nat → Nat → Nat} {ad : Nat → Nat} {cI cZ cW cJ : ClassId} {A : Nat → Prop} {adK adV : Nat → Nat} {E : PE} (C : cC p s m args c b_Se_measureFrom 3 "LanternBridge$Search" dC dI cI cZ cW cJ A adK adV E) (hA : ∀ q, s.heap.size ≤ q → A q) (hr : meth.sig.returnType = none) (hlk : meth.locks = false) (n : Nat)  (v1 : Int32)  : ∀ (k : Nat) (v2 : Int32) (F : Nat → Nat → Int32) (G : Nat → Nat → Int32) (P : Nat → Nat → Option Nat) (N : Nat → Nat) (r0 : Nat → Nat → Int32) (r1 : Nat → Nat → Int32) (r2 : Nat → Nat → Option Nat) (r3 : Nat → Nat), l_Se_measureFrom_2 n E v1 k v2 F G P N = some (r0, r1, r2, r3) → (∀ (ls : Array Slot), lv_has ls 3 [(0, .ref (ad 4))] → ∀ (H : Heap) (locs : List Loc), cH A s.heap dC dI ad cI cZ cW cJ r0 r1 r2 r3 H locs → W p l e (rL 8) s m args below meth c H locs 0 0 Q (F0 m 39 ls [])) → ∀ (ls : Array Slot), lv_has ls 3 [(0, .ref (ad 4)), (1, .int v1), (2, .int v2)] → ∀ (H : Heap) (locs : List Loc), cH A s.heap dC dI ad cI cZ cW cJ F G P N H locs → W p l e (rL 8) s m args below meth c H locs 0 0 Q (F0 m 2 ls []) := by
  obtain ⟨hx, hb, hml, hown, hT, hK, hTS, hTR, hpS, hi⟩ := id C
  intro k
  induction k with
  | zero => intro v2 F G P N r0 r1 r2 r3 hf; exact absurd hf (by unfold l_Se_measureFrom_2; exact fun h9 => by cases h9)
  | succ k ih =>
    intro v2 F G P N r0 r1 r2 r3 hf K ls hl H locs h
    unfold l_Se_measureFrom_2 at hf
    refine lv_iload_n hx hb d_Se_measureFrom_2 rfl (lv_at hl 2 rfl) ?_
    refine lv_sipush (v := 128) hx hb d_Se_measureFrom_3 (by decide) ?_
    refine lv_icmp_ge (tgt := 39) hx hb d_Se_measureFrom_6 (by decide) (fun hc => ?_) (fun hc => ?_)
    · have hf := op_t hc hf
      obtain ⟨rfl, rfl, rfl, rfl⟩ := op_i4 hf
      exact K ls (lv_sub hl [0] rfl) H locs h
    · have hf := op_f hc hf
      refine lv_aload_n hx hb d_Se_measureFrom_9 rfl (lv_at hl 0 rfl) ?_
      refine cg_4_1 hx hb hT hown hK h.1 fl_Se_11 d_Se_measureFrom_10 ?_
      refine lv_iload_n hx hb d_Se_measureFrom_13 rfl (lv_at hl 2 rfl) ?_
      refine lv_iload_n hx hb d_Se_measureFrom_14 rfl (lv_at hl 2 rfl) ?_
      refine lv_iload_n hx hb d_Se_measureFrom_15 rfl (lv_at hl 1 rfl) ?_
      obtain ⟨x2, he, hf⟩ := op_bind hf
      have K1 : ∀ (ls : Array Slot), lv_has ls 3 [(0, .ref (ad 4)), (1, .int v1), (2, .int v2)] → ∀ (H : Heap) (locs : List Loc), cH A s.heap dC dI ad cI cZ cW cJ F G P N H locs → W p l e (rL 8) s m args below meth c H locs 0 0 Q (F0 m 25 ls [.int x2, .int v2, .ref (ad 24)]) := by
        intro ls hl H locs h
        obtain ⟨h3, hf⟩ := op_if hf
        refine cs_24 hx hb hK h rfl h3 d_Se_measureFrom_25 (fun H locs h => ?_)
        refine lv_aload_n hx hb d_Se_measureFrom_26 rfl (lv_at hl 0 rfl) ?_
        refine cg_4_2 hx hb hT hown hK h.1 fl_Se_15 d_Se_measureFrom_27 ?_
        refine lv_iload_n hx hb d_Se_measureFrom_30 rfl (lv_at hl 2 rfl) ?_
        refine lv_iconst (v := 0) hx hb d_Se_measureFrom_31 (by decide) ?_
        obtain ⟨h4, hf⟩ := op_if hf
        refine cs_25 hx hb hK h rfl h4 d_Se_measureFrom_32 (fun H locs h => ?_)
        refine lv_iinc (v := (v2 + 1)) (lv' := [(2, .int (v2 + 1)), (0, .ref (ad 4)), (1, .int v1)]) hx hb d_Se_measureFrom_33 hl (k := 2) rfl rfl (by decide) rfl (fun ls hl => ?_)
        refine lv_goto (tgt := 2) hx hb d_Se_measureFrom_36 (by decide) ?_
        exact ih (v2 + 1) F ((upR (upR G 24 v2.toNatClampNeg x2) 25 v2.toNatClampNeg (vp_nar .boolean 0))) P N _ _ _ _ hf K ls (lv_sub hl [1, 2, 0] rfl) H locs h
      have hf := he
      refine lv_icmp_ne (tgt := 23) hx hb d_Se_measureFrom_16 (by decide) (fun hc => ?_) (fun hc => ?_)
      · have hf := op_f hc hf
        refine lv_ldc (v := 1073741824) hx hb hown (hT _ ko_Se_23) d_Se_measureFrom_23 ?_
        obtain rfl := op_i1 hf
        exact K1 ls (lv_sub hl [0, 1, 2] rfl) H locs h
      · have hf := op_t hc hf
        refine lv_iconst (v := 0) hx hb d_Se_measureFrom_19 (by decide) ?_
        refine lv_goto (tgt := 25) hx hb d_Se_measureFrom_20 (by decide) ?_
        obtain rfl := op_i1 hf
        exact K1 ls (lv_sub hl [0, 1, 2] rfl) H locs h
def p_Se_measureFrom (n : Nat) (E : PE) (v1 : Int32) (F : Nat → Nat → Int32) (G : Nat → Nat → Int32) (P : Nat → Nat → Option Nat) (N : Nat → Nat) : Option (CU) := (l_Se_measureFrom_2 n E v1 n 0 F G P N).bind fun (F5, G6, P7, N8) => (p_Se_settleAll n E 0 0 0 F5 G6 P7 N8).bind fun (F11, G12, P13, N14) => some (F11, G12, P13, N14)
set_option maxHeartbeats 4000000 in
theorem c_Se_measureFrom (l : Launch) (n : Nat) (E : PE) (v1 : Int32) (F : Nat → Nat → Int32) (G : Nat → Nat → Int32) (P : Nat → Nat → Option Nat) (N : Nat → Nat)  : CMv l y_Se_measureFrom b_Se_measureFrom 3 (rL 8) E (fun ad => [.ref (ad 4), .int v1]) F G P N (p_Se_measureFrom n E v1 F G P N) := by
  refine en_cv (by decide) (fun _ => Nat.le_of_ble_eq_true rfl) ?_
  intro z hf p e s m args below meth c dC dI ad cI cZ cW cJ A adK adV ls C hA h hr hlk hl
  have hl : lv_has ls 3 [(0, .ref (ad 4)), (1, .int v1)] := hl
  unfold p_Se_measureFrom at hf
  obtain ⟨hx, hb, hml, hown, hT, hK, hTS, hTR, hpS, hi⟩ := id C
  refine lv_iconst (v := 0) hx hb d_Se_measureFrom_0 (by decide) ?_
  refine lv_istore_n (lv' := [(2, .int 0), (0, .ref (ad 4)), (1, .int v1)]) hx hb d_Se_measureFrom_1 rfl hl (by decide) rfl (fun ls hl => ?_)
  obtain ⟨⟨F5, G6, P7, N8⟩, he, hf⟩ := op_bind hf
  try dsimp only at hf
  refine wl_Se_measureFrom_2 C hA hr hlk n v1 n 0 F G P N _ _ _ _ he (fun ls hl H locs h => ?_) ls (lv_sub hl [1, 2, 0] rfl) s.heap [] h
  refine lv_aload_n hx hb d_Se_measureFrom_39 rfl (lv_at hl 0 rfl) ?_
  refine lv_iconst (v := 0) hx hb d_Se_measureFrom_40 (by decide) ?_
  refine lv_iconst (v := 0) hx hb d_Se_measureFrom_41 (by decide) ?_
  refine lv_iconst (v := 0) hx hb d_Se_measureFrom_42 (by decide) ?_
  obtain ⟨⟨F11, G12, P13, N14⟩, hc9, hf⟩ := op_bind hf
  try dsimp only at hf
  refine kx_v (C0 := R_Se) (b0 := ad 4) (rest := []) C h hA rfl (va_recv hK h.1 (ci := 6) (q0 := 4) rfl rfl) (c_Se_settleAll l n E 0 0 0 F5 G6 P7 N8) hc9 (cbW 3 hT cd_Se_settleAll rfl rfl ini_Se ml_Se_24 hd_Se_settleAll ⟨Nat.le_of_ble_eq_true rfl, Nat.le_of_ble_eq_true rfl⟩) im_Se_settleAll sp_Se_settleAll rfl hl.1 rfl (Nat.le_of_ble_eq_true rfl) d_Se_measureFrom_43 ⟨Nat.zero_le _, Nat.zero_le _⟩ (fun H locs h => ?_)
  exact rt_cv C h hr hlk hf d_Se_measureFrom_46
