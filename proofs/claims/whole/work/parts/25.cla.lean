theorem hd_St_walker : y_St_walker.cls ≠ "java/lang/invoke/MethodHandle" ∧ y_St_walker.cls ≠ "java/lang/invoke/VarHandle" ∧ (parseMethodDescriptor y_St_walker.desc).map (fun d => d.parameters.length) = some 1 := by decide +kernel
theorem d_St_walker_0 : decode b_St_walker 0 = .ok (.iload_n 1, 1) := by decide +kernel
theorem d_St_walker_1 : decode b_St_walker 1 = .ok (.ifCond .lt 11, 3) := by decide +kernel
theorem d_St_walker_4 : decode b_St_walker 4 = .ok (.iload_n 1, 1) := by decide +kernel
theorem d_St_walker_5 : decode b_St_walker 5 = .ok (.aload_n 0, 1) := by decide +kernel
theorem d_St_walker_6 : decode b_St_walker 6 = .ok (.getfield 52, 3) := by decide +kernel
theorem d_St_walker_9 : decode b_St_walker 9 = .ok (.if_icmp .lt 7, 3) := by decide +kernel
theorem d_St_walker_12 : decode b_St_walker 12 = .ok (.aconst_null, 1) := by decide +kernel
theorem d_St_walker_13 : decode b_St_walker 13 = .ok (.goto 9, 3) := by decide +kernel
theorem d_St_walker_16 : decode b_St_walker 16 = .ok (.aload_n 0, 1) := by decide +kernel
theorem d_St_walker_17 : decode b_St_walker 17 = .ok (.getfield 26, 3) := by decide +kernel
theorem d_St_walker_20 : decode b_St_walker 20 = .ok (.iload_n 1, 1) := by decide +kernel
theorem d_St_walker_21 : decode b_St_walker 21 = .ok (.aaload, 1) := by decide +kernel
theorem d_St_walker_22 : decode b_St_walker 22 = .ok (.areturn, 1) := by decide +kernel
def p_St_walker (n : Nat) (E : PE) (F : Nat → Nat → Int32) (G : Nat → Nat → Int32) (P : Nat → Nat → Option Nat) (N : Nat → Nat) (v1 : Int32)  : Option (Option Nat) := (if v1 < 0 then some none else (if v1 < (F 1 5) then if ix v1 6 then (some (P 8 v1.toNatClampNeg)).bind fun q4 => some q4 else none else some none) : Option (Option Nat)).bind fun x2 => some x2
set_option maxHeartbeats 4000000 in
theorem c_St_walker (l : Launch) (n : Nat) (E : PE) (F : Nat → Nat → Int32) (G : Nat → Nat → Int32) (P : Nat → Nat → Option Nat) (N : Nat → Nat) (dC : Nat → ClassId) (dI : Nat → Nat → Nat) (ad : Nat → Nat) (cI cZ cW cJ : ClassId) (v1 : Int32)   : ROq l y_St_walker b_St_walker 2 (.object "LanternBridge$Walker") (rL 5) (cB dC dI ad cI cZ cW cJ E F G P N) [.ref (ad 1), .int v1] (p_St_walker n E F G P N v1 ) := by
  refine en_roq (by decide) (Nat.le_of_ble_eq_true rfl) ?_
  intro z hf p e s m args below meth c ls hx hb hml hown hT hr hlk hB hl
  obtain ⟨hK, hP, hp, hi⟩ := hB
  have hl : lv_has ls 2 [(0, .ref (ad 1)), (1, .int v1)] := hl
  unfold p_St_walker at hf
  refine lv_iload_n hx hb d_St_walker_0 rfl (lv_at hl 1 rfl) ?_
  obtain ⟨x2, he, hf⟩ := op_bind hf
  have K1 : ∀ (ls : Array Slot), lv_has ls 2 [] → W p l e (rL 5) s m args below meth c s.heap [] 0 0 (MQ below (fun _ st oc t => oc = .returned (some (va_rf z)) ∧ t.heap = st.heap) args s 0 0 (fun _ => False)) (F0 m 22 ls [va_rf x2]) := by
    intro ls hl
    obtain rfl := op_i1 hf
    exact rt_sq hx hb hr hlk d_St_walker_22
  have hf := he
  refine lv_if_lt (tgt := 12) hx hb d_St_walker_1 (by decide) (fun hc => ?_) (fun hc => ?_)
  · have hf := op_t hc hf
    refine lv_null hx hb d_St_walker_12 ?_
    refine lv_goto (tgt := 22) hx hb d_St_walker_13 (by decide) ?_
    obtain rfl := op_i1 hf
    exact K1 ls (lv_sub hl [] rfl)
  · have hf := op_f hc hf
    refine lv_iload_n hx hb d_St_walker_4 rfl (lv_at hl 1 rfl) ?_
    refine lv_aload_n hx hb d_St_walker_5 rfl (lv_at hl 0 rfl) ?_
    refine cg_1_5 hx hb hT hown hK hP fl_St_52 d_St_walker_6 ?_
    refine lv_icmp_lt (tgt := 16) hx hb d_St_walker_9 (by decide) (fun hc => ?_) (fun hc => ?_)
    · have hf := op_t hc hf
      refine lv_aload_n hx hb d_St_walker_16 rfl (lv_at hl 0 rfl) ?_
      refine cg_1_4 hx hb hT hown hK hP fl_St_26 d_St_walker_17 ?_
      refine lv_iload_n hx hb d_St_walker_20 rfl (lv_at hl 1 rfl) ?_
      obtain ⟨h3, hf⟩ := op_if hf
      obtain ⟨q4, hq4, hf⟩ := op_bind hf
      refine cq_8 hx hb hK hP rfl h3 d_St_walker_21 ?_
      rw [op_i1 hq4]
      obtain rfl := op_i1 hf
      exact K1 ls (lv_sub hl [] rfl)
    · have hf := op_f hc hf
      refine lv_null hx hb d_St_walker_12 ?_
      refine lv_goto (tgt := 22) hx hb d_St_walker_13 (by decide) ?_
      obtain rfl := op_i1 hf
      exact K1 ls (lv_sub hl [] rfl)
theorem hd_St_everybody : y_St_everybody.cls ≠ "java/lang/invoke/MethodHandle" ∧ y_St_everybody.cls ≠ "java/lang/invoke/VarHandle" ∧ (parseMethodDescriptor y_St_everybody.desc).map (fun d => d.parameters.length) = some 0 := by decide +kernel
theorem d_St_everybody_0 : decode b_St_everybody 0 = .ok (.iconst 1, 1) := by decide +kernel
theorem d_St_everybody_1 : decode b_St_everybody 1 = .ok (.aload_n 0, 1) := by decide +kernel
theorem d_St_everybody_2 : decode b_St_everybody 2 = .ok (.getfield 52, 3) := by decide +kernel
theorem d_St_everybody_5 : decode b_St_everybody 5 = .ok (.ishl, 1) := by decide +kernel
theorem d_St_everybody_6 : decode b_St_everybody 6 = .ok (.iconst 1, 1) := by decide +kernel
theorem d_St_everybody_7 : decode b_St_everybody 7 = .ok (.isub, 1) := by decide +kernel
theorem d_St_everybody_8 : decode b_St_everybody 8 = .ok (.ireturn, 1) := by decide +kernel
def p_St_everybody (n : Nat) (E : PE) (F : Nat → Nat → Int32) (G : Nat → Nat → Int32) (P : Nat → Nat → Option Nat) (N : Nat → Nat)   : Option (Int32) := some ((1 <<< ((F 1 5) &&& 31)) - 1)
set_option maxHeartbeats 4000000 in
theorem c_St_everybody (l : Launch) (n : Nat) (E : PE) (F : Nat → Nat → Int32) (G : Nat → Nat → Int32) (P : Nat → Nat → Option Nat) (N : Nat → Nat) (dC : Nat → ClassId) (dI : Nat → Nat → Nat) (ad : Nat → Nat) (cI cZ cW cJ : ClassId)    : ROi l y_St_everybody b_St_everybody 1 (.int) (rL 5) (cB dC dI ad cI cZ cW cJ E F G P N) [.ref (ad 1)] (p_St_everybody n E F G P N ) := by
  refine en_roi (by decide) (Nat.le_of_ble_eq_true rfl) ?_
  intro z hf p e s m args below meth c ls hx hb hml hown hT hr hlk hB hl
  obtain ⟨hK, hP, hp, hi⟩ := hB
  have hl : lv_has ls 1 [(0, .ref (ad 1))] := hl
  unfold p_St_everybody at hf
  refine lv_iconst (v := 1) hx hb d_St_everybody_0 (by decide) ?_
  refine lv_aload_n hx hb d_St_everybody_1 rfl (lv_at hl 0 rfl) ?_
  refine cg_1_5 hx hb hT hown hK hP fl_St_52 d_St_everybody_2 ?_
  refine lv_ishl hx hb d_St_everybody_5 ?_
  refine lv_iconst (v := 1) hx hb d_St_everybody_6 (by decide) ?_
  refine lv_isub hx hb d_St_everybody_7 ?_
  obtain rfl := op_i1 hf
  exact rt_si hx hb hr hlk rfl d_St_everybody_8
theorem hd_St_isSet : y_St_isSet.cls ≠ "java/lang/invoke/MethodHandle" ∧ y_St_isSet.cls ≠ "java/lang/invoke/VarHandle" ∧ (parseMethodDescriptor y_St_isSet.desc).map (fun d => d.parameters.length) = some 1 := by decide +kernel
theorem d_St_isSet_0 : decode b_St_isSet 0 = .ok (.iload_n 1, 1) := by decide +kernel
theorem d_St_isSet_1 : decode b_St_isSet 1 = .ok (.aload_n 0, 1) := by decide +kernel
theorem d_St_isSet_2 : decode b_St_isSet 2 = .ok (.invokevirtual 73, 3) := by decide +kernel
theorem d_St_isSet_5 : decode b_St_isSet 5 = .ok (.iconst (-1), 1) := by decide +kernel
theorem d_St_isSet_6 : decode b_St_isSet 6 = .ok (.ixor, 1) := by decide +kernel
theorem d_St_isSet_7 : decode b_St_isSet 7 = .ok (.iand, 1) := by decide +kernel
theorem d_St_isSet_8 : decode b_St_isSet 8 = .ok (.ifCond .ne 7, 3) := by decide +kernel
theorem d_St_isSet_11 : decode b_St_isSet 11 = .ok (.iconst 1, 1) := by decide +kernel
theorem d_St_isSet_12 : decode b_St_isSet 12 = .ok (.goto 4, 3) := by decide +kernel
theorem d_St_isSet_15 : decode b_St_isSet 15 = .ok (.iconst 0, 1) := by decide +kernel
theorem d_St_isSet_16 : decode b_St_isSet 16 = .ok (.ireturn, 1) := by decide +kernel
def p_St_isSet (n : Nat) (E : PE) (F : Nat → Nat → Int32) (G : Nat → Nat → Int32) (P : Nat → Nat → Option Nat) (N : Nat → Nat) (v1 : Int32)  : Option (Int32) := (p_St_everybody n E F G P N ).bind fun x2 => (if (v1 &&& (x2 ^^^ (-1))) = 0 then some 1 else some 0 : Option (Int32)).bind fun x4 => if isZ x4 then some x4 else none
set_option maxHeartbeats 4000000 in
theorem c_St_isSet (l : Launch) (n : Nat) (E : PE) (F : Nat → Nat → Int32) (G : Nat → Nat → Int32) (P : Nat → Nat → Option Nat) (N : Nat → Nat) (dC : Nat → ClassId) (dI : Nat → Nat → Nat) (ad : Nat → Nat) (cI cZ cW cJ : ClassId) (v1 : Int32)   : ROi l y_St_isSet b_St_isSet 2 (.boolean) (rL 6) (cB dC dI ad cI cZ cW cJ E F G P N) [.ref (ad 1), .int v1] (p_St_isSet n E F G P N v1 ) := by
  refine en_roi (by decide) (Nat.le_of_ble_eq_true rfl) ?_
  intro z hf p e s m args below meth c ls hx hb hml hown hT hr hlk hB hl
  obtain ⟨hK, hP, hp, hi⟩ := hB
  have hl : lv_has ls 2 [(0, .ref (ad 1)), (1, .int v1)] := hl
  unfold p_St_isSet at hf
  refine lv_iload_n hx hb d_St_isSet_0 rfl (lv_at hl 1 rfl) ?_
  refine lv_aload_n hx hb d_St_isSet_1 rfl (lv_at hl 0 rfl) ?_
  obtain ⟨x2, hc1, hf⟩ := op_bind hf
  refine kr_i (C := R_St) (b0 := ad 1) (rest := [.int v1]) hx hb hml hown hT cB_bl (cB_to hK hP hp hi) (va_recv hK hP (ci := 7) (q0 := 1) rfl rfl) (c_St_everybody l n E F G P N dC dI ad cI cZ cW cJ  _ hc1) (cbW 0 hT cd_St_everybody rfl rfl ini_St ml_St_73 hd_St_everybody ⟨Nat.le_of_ble_eq_true rfl, Nat.le_of_ble_eq_true rfl⟩) im_St_everybody se_St_St_everybody__St_everybody rfl hl.1 rfl (Nat.le_of_ble_eq_true rfl) d_St_isSet_2 ⟨Nat.zero_le _, Nat.zero_le _⟩ ?_
  refine lv_iconst (v := (-1)) hx hb d_St_isSet_5 (by decide) ?_
  refine lv_ixor hx hb d_St_isSet_6 ?_
  refine lv_iand hx hb d_St_isSet_7 ?_
  obtain ⟨x4, he, hf⟩ := op_bind hf
  have K3 : ∀ (ls : Array Slot), lv_has ls 2 [] → W p l e (rL 6) s m args below meth c s.heap [] 0 0 (MQ below (fun _ st oc t => oc = .returned (some (.int z)) ∧ t.heap = st.heap) args s 0 0 (fun _ => False)) (F0 m 16 ls [.int x4]) := by
    intro ls hl
    obtain ⟨h5, hf⟩ := op_if hf
    obtain rfl := op_i1 hf
    exact rt_si hx hb hr hlk (isZ_nar h5) d_St_isSet_16
  have hf := he
  refine lv_if_ne (tgt := 15) hx hb d_St_isSet_8 (by decide) (fun hc => ?_) (fun hc => ?_)
  · have hf := op_f hc hf
    refine lv_iconst (v := 0) hx hb d_St_isSet_15 (by decide) ?_
    obtain rfl := op_i1 hf
    exact K3 ls (lv_sub hl [] rfl)
  · have hf := op_t hc hf
    refine lv_iconst (v := 1) hx hb d_St_isSet_11 (by decide) ?_
    refine lv_goto (tgt := 16) hx hb d_St_isSet_12 (by decide) ?_
    obtain rfl := op_i1 hf
    exact K3 ls (lv_sub hl [] rfl)
theorem hd_St_withLantern : y_St_withLantern.cls ≠ "java/lang/invoke/MethodHandle" ∧ y_St_withLantern.cls ≠ "java/lang/invoke/VarHandle" ∧ (parseMethodDescriptor y_St_withLantern.desc).map (fun d => d.parameters.length) = some 0 := by decide +kernel
theorem d_St_withLantern_0 : decode b_St_withLantern 0 = .ok (.aload_n 0, 1) := by decide +kernel
theorem d_St_withLantern_1 : decode b_St_withLantern 1 = .ok (.getfield 58, 3) := by decide +kernel
theorem d_St_withLantern_4 : decode b_St_withLantern 4 = .ok (.iconst 1, 1) := by decide +kernel
theorem d_St_withLantern_5 : decode b_St_withLantern 5 = .ok (.if_icmp .ne 10, 3) := by decide +kernel
theorem d_St_withLantern_8 : decode b_St_withLantern 8 = .ok (.aload_n 0, 1) := by decide +kernel
theorem d_St_withLantern_9 : decode b_St_withLantern 9 = .ok (.getfield 55, 3) := by decide +kernel
theorem d_St_withLantern_12 : decode b_St_withLantern 12 = .ok (.goto 14, 3) := by decide +kernel
theorem d_St_withLantern_15 : decode b_St_withLantern 15 = .ok (.aload_n 0, 1) := by decide +kernel
theorem d_St_withLantern_16 : decode b_St_withLantern 16 = .ok (.invokevirtual 73, 3) := by decide +kernel
theorem d_St_withLantern_19 : decode b_St_withLantern 19 = .ok (.aload_n 0, 1) := by decide +kernel
theorem d_St_withLantern_20 : decode b_St_withLantern 20 = .ok (.getfield 55, 3) := by decide +kernel
theorem d_St_withLantern_23 : decode b_St_withLantern 23 = .ok (.iconst (-1), 1) := by decide +kernel
theorem d_St_withLantern_24 : decode b_St_withLantern 24 = .ok (.ixor, 1) := by decide +kernel
theorem d_St_withLantern_25 : decode b_St_withLantern 25 = .ok (.iand, 1) := by decide +kernel
theorem d_St_withLantern_26 : decode b_St_withLantern 26 = .ok (.ireturn, 1) := by decide +kernel
def p_St_withLantern (n : Nat) (E : PE) (F : Nat → Nat → Int32) (G : Nat → Nat → Int32) (P : Nat → Nat → Option Nat) (N : Nat → Nat)   : Option (Int32) := (if (F 1 7) = 1 then some (F 1 6) else (p_St_everybody n E F G P N ).bind fun x4 => some (x4 &&& ((F 1 6) ^^^ (-1))) : Option (Int32)).bind fun x2 => some x2
set_option maxHeartbeats 4000000 in
theorem c_St_withLantern (l : Launch) (n : Nat) (E : PE) (F : Nat → Nat → Int32) (G : Nat → Nat → Int32) (P : Nat → Nat → Option Nat) (N : Nat → Nat) (dC : Nat → ClassId) (dI : Nat → Nat → Nat) (ad : Nat → Nat) (cI cZ cW cJ : ClassId)    : ROi l y_St_withLantern b_St_withLantern 1 (.int) (rL 6) (cB dC dI ad cI cZ cW cJ E F G P N) [.ref (ad 1)] (p_St_withLantern n E F G P N ) := by
  refine en_roi (by decide) (Nat.le_of_ble_eq_true rfl) ?_
  intro z hf p e s m args below meth c ls hx hb hml hown hT hr hlk hB hl
  obtain ⟨hK, hP, hp, hi⟩ := hB
  have hl : lv_has ls 1 [(0, .ref (ad 1))] := hl
  unfold p_St_withLantern at hf
  refine lv_aload_n hx hb d_St_withLantern_0 rfl (lv_at hl 0 rfl) ?_
  refine cg_1_7 hx hb hT hown hK hP fl_St_58 d_St_withLantern_1 ?_
  refine lv_iconst (v := 1) hx hb d_St_withLantern_4 (by decide) ?_
  obtain ⟨x2, he, hf⟩ := op_bind hf
  have K1 : ∀ (ls : Array Slot), lv_has ls 1 [] → W p l e (rL 6) s m args below meth c s.heap [] 0 0 (MQ below (fun _ st oc t => oc = .returned (some (.int z)) ∧ t.heap = st.heap) args s 0 0 (fun _ => False)) (F0 m 26 ls [.int x2]) := by
    intro ls hl
    obtain rfl := op_i1 hf
    exact rt_si hx hb hr hlk rfl d_St_withLantern_26
  have hf := he
  refine lv_icmp_ne (tgt := 15) hx hb d_St_withLantern_5 (by decide) (fun hc => ?_) (fun hc => ?_)
  · have hf := op_f hc hf
    refine lv_aload_n hx hb d_St_withLantern_15 rfl (lv_at hl 0 rfl) ?_
    obtain ⟨x4, hc3, hf⟩ := op_bind hf
    refine kr_i (C := R_St) (b0 := ad 1) (rest := []) hx hb hml hown hT cB_bl (cB_to hK hP hp hi) (va_recv hK hP (ci := 7) (q0 := 1) rfl rfl) (c_St_everybody l n E F G P N dC dI ad cI cZ cW cJ  _ hc3) (cbW 0 hT cd_St_everybody rfl rfl ini_St ml_St_73 hd_St_everybody ⟨Nat.le_of_ble_eq_true rfl, Nat.le_of_ble_eq_true rfl⟩) im_St_everybody se_St_St_everybody__St_everybody rfl hl.1 rfl (Nat.le_of_ble_eq_true rfl) d_St_withLantern_16 ⟨Nat.zero_le _, Nat.zero_le _⟩ ?_
    refine lv_aload_n hx hb d_St_withLantern_19 rfl (lv_at hl 0 rfl) ?_
    refine cg_1_6 hx hb hT hown hK hP fl_St_55 d_St_withLantern_20 ?_
    refine lv_iconst (v := (-1)) hx hb d_St_withLantern_23 (by decide) ?_
    refine lv_ixor hx hb d_St_withLantern_24 ?_
    refine lv_iand hx hb d_St_withLantern_25 ?_
    obtain rfl := op_i1 hf
    exact K1 ls (lv_sub hl [] rfl)
  · have hf := op_t hc hf
    refine lv_aload_n hx hb d_St_withLantern_8 rfl (lv_at hl 0 rfl) ?_
    refine cg_1_6 hx hb hT hown hK hP fl_St_55 d_St_withLantern_9 ?_
    refine lv_goto (tgt := 26) hx hb d_St_withLantern_12 (by decide) ?_
    obtain rfl := op_i1 hf
    exact K1 ls (lv_sub hl [] rfl)
theorem hd_St_place : y_St_place.cls ≠ "java/lang/invoke/MethodHandle" ∧ y_St_place.cls ≠ "java/lang/invoke/VarHandle" ∧ (parseMethodDescriptor y_St_place.desc).map (fun d => d.parameters.length) = some 0 := by decide +kernel
theorem d_St_place_0 : decode b_St_place 0 = .ok (.aload_n 0, 1) := by decide +kernel
theorem d_St_place_1 : decode b_St_place 1 = .ok (.getfield 55, 3) := by decide +kernel
theorem d_St_place_4 : decode b_St_place 4 = .ok (.iconst 1, 1) := by decide +kernel
theorem d_St_place_5 : decode b_St_place 5 = .ok (.ishl, 1) := by decide +kernel
theorem d_St_place_6 : decode b_St_place 6 = .ok (.aload_n 0, 1) := by decide +kernel
theorem d_St_place_7 : decode b_St_place 7 = .ok (.getfield 58, 3) := by decide +kernel
theorem d_St_place_10 : decode b_St_place 10 = .ok (.ior, 1) := by decide +kernel
theorem d_St_place_11 : decode b_St_place 11 = .ok (.ireturn, 1) := by decide +kernel
def p_St_place (n : Nat) (E : PE) (F : Nat → Nat → Int32) (G : Nat → Nat → Int32) (P : Nat → Nat → Option Nat) (N : Nat → Nat)   : Option (Int32) := some ((((F 1 6) <<< (1 &&& 31)) ||| (F 1 7)))
set_option maxHeartbeats 4000000 in
theorem c_St_place (l : Launch) (n : Nat) (E : PE) (F : Nat → Nat → Int32) (G : Nat → Nat → Int32) (P : Nat → Nat → Option Nat) (N : Nat → Nat) (dC : Nat → ClassId) (dI : Nat → Nat → Nat) (ad : Nat → Nat) (cI cZ cW cJ : ClassId)    : ROi l y_St_place b_St_place 1 (.int) (rL 5) (cB dC dI ad cI cZ cW cJ E F G P N) [.ref (ad 1)] (p_St_place n E F G P N ) := by
  refine en_roi (by decide) (Nat.le_of_ble_eq_true rfl) ?_
  intro z hf p e s m args below meth c ls hx hb hml hown hT hr hlk hB hl
  obtain ⟨hK, hP, hp, hi⟩ := hB
  have hl : lv_has ls 1 [(0, .ref (ad 1))] := hl
  unfold p_St_place at hf
  refine lv_aload_n hx hb d_St_place_0 rfl (lv_at hl 0 rfl) ?_
  refine cg_1_6 hx hb hT hown hK hP fl_St_55 d_St_place_1 ?_
  refine lv_iconst (v := 1) hx hb d_St_place_4 (by decide) ?_
  refine lv_ishl hx hb d_St_place_5 ?_
  refine lv_aload_n hx hb d_St_place_6 rfl (lv_at hl 0 rfl) ?_
  refine cg_1_7 hx hb hT hown hK hP fl_St_58 d_St_place_7 ?_
  refine lv_ior hx hb d_St_place_10 ?_
  obtain rfl := op_i1 hf
  exact rt_si hx hb hr hlk rfl d_St_place_11
theorem hd_St_greatestOwn : y_St_greatestOwn.cls ≠ "java/lang/invoke/MethodHandle" ∧ y_St_greatestOwn.cls ≠ "java/lang/invoke/VarHandle" ∧ (parseMethodDescriptor y_St_greatestOwn.desc).map (fun d => d.parameters.length) = some 1 := by decide +kernel
theorem d_St_greatestOwn_0 : decode b_St_greatestOwn 0 = .ok (.bipush 99, 2) := by decide +kernel
theorem d_St_greatestOwn_2 : decode b_St_greatestOwn 2 = .ok (.istore_n 2, 1) := by decide +kernel
theorem d_St_greatestOwn_3 : decode b_St_greatestOwn 3 = .ok (.iconst 0, 1) := by decide +kernel
theorem d_St_greatestOwn_4 : decode b_St_greatestOwn 4 = .ok (.istore_n 3, 1) := by decide +kernel
theorem d_St_greatestOwn_5 : decode b_St_greatestOwn 5 = .ok (.iload_n 3, 1) := by decide +kernel
theorem d_St_greatestOwn_6 : decode b_St_greatestOwn 6 = .ok (.aload_n 0, 1) := by decide +kernel
theorem d_St_greatestOwn_7 : decode b_St_greatestOwn 7 = .ok (.getfield 67, 3) := by decide +kernel
theorem d_St_greatestOwn_10 : decode b_St_greatestOwn 10 = .ok (.if_icmp .ge 34, 3) := by decide +kernel
theorem d_St_greatestOwn_13 : decode b_St_greatestOwn 13 = .ok (.aload_n 0, 1) := by decide +kernel
theorem d_St_greatestOwn_14 : decode b_St_greatestOwn 14 = .ok (.getfield 30, 3) := by decide +kernel
theorem d_St_greatestOwn_17 : decode b_St_greatestOwn 17 = .ok (.iload_n 3, 1) := by decide +kernel
theorem d_St_greatestOwn_18 : decode b_St_greatestOwn 18 = .ok (.iaload, 1) := by decide +kernel
theorem d_St_greatestOwn_19 : decode b_St_greatestOwn 19 = .ok (.iload_n 1, 1) := by decide +kernel
theorem d_St_greatestOwn_20 : decode b_St_greatestOwn 20 = .ok (.ishr, 1) := by decide +kernel
theorem d_St_greatestOwn_21 : decode b_St_greatestOwn 21 = .ok (.iconst 1, 1) := by decide +kernel
theorem d_St_greatestOwn_22 : decode b_St_greatestOwn 22 = .ok (.iand, 1) := by decide +kernel
theorem d_St_greatestOwn_23 : decode b_St_greatestOwn 23 = .ok (.iconst 1, 1) := by decide +kernel
theorem d_St_greatestOwn_24 : decode b_St_greatestOwn 24 = .ok (.if_icmp .ne 14, 3) := by decide +kernel
theorem d_St_greatestOwn_27 : decode b_St_greatestOwn 27 = .ok (.iload_n 2, 1) := by decide +kernel
theorem d_St_greatestOwn_28 : decode b_St_greatestOwn 28 = .ok (.aload_n 0, 1) := by decide +kernel
theorem d_St_greatestOwn_29 : decode b_St_greatestOwn 29 = .ok (.getfield 33, 3) := by decide +kernel
theorem d_St_greatestOwn_32 : decode b_St_greatestOwn 32 = .ok (.iload_n 3, 1) := by decide +kernel
theorem d_St_greatestOwn_33 : decode b_St_greatestOwn 33 = .ok (.iaload, 1) := by decide +kernel
theorem d_St_greatestOwn_34 : decode b_St_greatestOwn 34 = .ok (.invokestatic 77, 3) := by decide +kernel
theorem d_St_greatestOwn_37 : decode b_St_greatestOwn 37 = .ok (.istore_n 2, 1) := by decide +kernel
theorem d_St_greatestOwn_38 : decode b_St_greatestOwn 38 = .ok (.iinc 3 1, 3) := by decide +kernel
theorem d_St_greatestOwn_41 : decode b_St_greatestOwn 41 = .ok (.goto (-36), 3) := by decide +kernel
theorem d_St_greatestOwn_44 : decode b_St_greatestOwn 44 = .ok (.iload_n 2, 1) := by decide +kernel
theorem d_St_greatestOwn_45 : decode b_St_greatestOwn 45 = .ok (.ireturn, 1) := by decide +kernel
def l_St_greatestOwn_5 (n : Nat) (E : PE) (F : Nat → Nat → Int32) (G : Nat → Nat → Int32) (P : Nat → Nat → Option Nat) (N : Nat → Nat)  (v1 : Int32)  : Nat → Int32 → Int32 → Option (Int32)
  | 0, _, _ => none
  | k + 1, v2, v3 => (if (F 1 12) ≤ v3 then some v2 else if ix v3 12 then (if (((G 11 v3.toNatClampNeg) >>> (v1 &&& 31)) &&& 1) = 1 then if ix v3 12 then some (jmin v2 (G 13 v3.toNatClampNeg)) else none else some v2 : Option (Int32)).bind fun x3 => l_St_greatestOwn_5 n E F G P N v1 k x3 (v3 + 1) else none)
set_option maxHeartbeats 4000000 in
theorem wl_St_greatestOwn_5 {Q : State → Prop}  {p : Program} {l : Launch} {e : Env} {s : State} {m : MethodId} {args : Array Value} {below : List Frame} {meth : Method} {c : Code} (hx : p.tables.exec = Jvm.exec) (hb : c.code = b_St_greatestOwn) (hml : c.maxLocals = 4) (hown : s.vm.findClass "LanternBridge$State" = some m.cls) (hT : ∀ w ∈ WT, w.before args s = true) (hr : meth.sig.returnType = some .int) (hlk : meth.locks = false) {dC : Nat → ClassId} {dI : Nat → Nat → Nat} {ad : Nat → Nat} {cI cZ cW cJ : ClassId} {E : PE} {F G : Nat → Nat → Int32} {P : Nat → Nat → Option Nat} {N : Nat → Nat} (hK : cK dC dI cI cZ cW cJ s) (hP : va_P (dC, dI) CL (cX ad cI cZ cW cJ F G P N) s.heap) (hp : pS dC dI cI E (fun _ => False) s.heap) (hi : iS s) (n : Nat)  (v1 : Int32)  : ∀ (k : Nat) (v2 : Int32) (v3 : Int32) (r0 : Int32), l_St_greatestOwn_5 n E F G P N v1 k v2 v3 = some r0 → (∀ (ls : Array Slot), lv_has ls 4 [(2, .int r0)] → W p l e (rL 5) s m args below meth c s.heap [] 0 0 Q (F0 m 44 ls [])) → ∀ (ls : Array Slot), lv_has ls 4 [(0, .ref (ad 1)), (1, .int v1), (2, .int v2), (3, .int v3)] → W p l e (rL 5) s m args below meth c s.heap [] 0 0 Q (F0 m 5 ls []) := by
  intro k
  induction k with
  | zero => intro v2 v3 r0 hf; exact absurd hf (by unfold l_St_greatestOwn_5; exact fun h9 => by cases h9)
  | succ k ih =>
    intro v2 v3 r0 hf K ls hl
    unfold l_St_greatestOwn_5 at hf
    refine lv_iload_n hx hb d_St_greatestOwn_5 rfl (lv_at hl 3 rfl) ?_
    refine lv_aload_n hx hb d_St_greatestOwn_6 rfl (lv_at hl 0 rfl) ?_
    refine cg_1_12 hx hb hT hown hK hP fl_St_67 d_St_greatestOwn_7 ?_
    refine lv_icmp_ge (tgt := 44) hx hb d_St_greatestOwn_10 (by decide) (fun hc => ?_) (fun hc => ?_)
    · have hf := op_t hc hf
      obtain rfl := op_i1 hf
      exact K ls (lv_sub hl [2] rfl)
    · have hf := op_f hc hf
      refine lv_aload_n hx hb d_St_greatestOwn_13 rfl (lv_at hl 0 rfl) ?_
      refine cg_1_10 hx hb hT hown hK hP fl_St_30 d_St_greatestOwn_14 ?_
      refine lv_iload_n hx hb d_St_greatestOwn_17 rfl (lv_at hl 3 rfl) ?_
      obtain ⟨h1, hf⟩ := op_if hf
      refine ca_11 hx hb hK hP rfl h1 d_St_greatestOwn_18 ?_
      refine lv_iload_n hx hb d_St_greatestOwn_19 rfl (lv_at hl 1 rfl) ?_
      refine lv_ishr hx hb d_St_greatestOwn_20 ?_
      refine lv_iconst (v := 1) hx hb d_St_greatestOwn_21 (by decide) ?_
      refine lv_iand hx hb d_St_greatestOwn_22 ?_
      refine lv_iconst (v := 1) hx hb d_St_greatestOwn_23 (by decide) ?_
      obtain ⟨x3, he, hf⟩ := op_bind hf
      have K2 : ∀ (ls : Array Slot), lv_has ls 4 [(0, .ref (ad 1)), (1, .int v1), (2, .int x3), (3, .int v3)] → W p l e (rL 5) s m args below meth c s.heap [] 0 0 Q (F0 m 38 ls []) := by
        intro ls hl
        refine lv_iinc (v := (v3 + 1)) (lv' := [(3, .int (v3 + 1)), (0, .ref (ad 1)), (1, .int v1), (2, .int x3)]) hx hb d_St_greatestOwn_38 hl (k := 3) rfl rfl (by decide) rfl (fun ls hl => ?_)
        refine lv_goto (tgt := 5) hx hb d_St_greatestOwn_41 (by decide) ?_
        exact ih x3 (v3 + 1) _ hf K ls (lv_sub hl [1, 2, 3, 0] rfl)
      have hf := he
      refine lv_icmp_ne (tgt := 38) hx hb d_St_greatestOwn_24 (by decide) (fun hc => ?_) (fun hc => ?_)
      · have hf := op_f hc hf
        obtain rfl := op_i1 hf
        exact K2 ls (lv_sub hl [0, 1, 2, 3] rfl)
      · have hf := op_t hc hf
        refine lv_iload_n hx hb d_St_greatestOwn_27 rfl (lv_at hl 2 rfl) ?_
        refine lv_aload_n hx hb d_St_greatestOwn_28 rfl (lv_at hl 0 rfl) ?_
        refine cg_1_11 hx hb hT hown hK hP fl_St_33 d_St_greatestOwn_29 ?_
        refine lv_iload_n hx hb d_St_greatestOwn_32 rfl (lv_at hl 3 rfl) ?_
        obtain ⟨h4, hf⟩ := op_if hf
        refine ca_13 hx hb hK hP rfl h4 d_St_greatestOwn_33 ?_
        refine k_jmin hx hb hml hown hl.1 (hT _ ml_St_77) hT d_St_greatestOwn_34 (Nat.le_of_ble_eq_true rfl) (Nat.le_of_ble_eq_true rfl) (Nat.le_of_ble_eq_true rfl) ⟨Nat.zero_le _, Nat.zero_le _⟩ ?_
        refine lv_istore_n (lv' := [(2, .int (jmin v2 (G 13 v3.toNatClampNeg))), (0, .ref (ad 1)), (1, .int v1), (3, .int v3)]) hx hb d_St_greatestOwn_37 rfl hl (by decide) rfl (fun ls hl => ?_)
        obtain rfl := op_i1 hf
        exact K2 ls (lv_sub hl [1, 2, 0, 3] rfl)
def p_St_greatestOwn (n : Nat) (E : PE) (F : Nat → Nat → Int32) (G : Nat → Nat → Int32) (P : Nat → Nat → Option Nat) (N : Nat → Nat) (v1 : Int32)  : Option (Int32) := (l_St_greatestOwn_5 n E F G P N v1 n 99 0).bind fun y5 => some y5
set_option maxHeartbeats 4000000 in
theorem c_St_greatestOwn (l : Launch) (n : Nat) (E : PE) (F : Nat → Nat → Int32) (G : Nat → Nat → Int32) (P : Nat → Nat → Option Nat) (N : Nat → Nat) (dC : Nat → ClassId) (dI : Nat → Nat → Nat) (ad : Nat → Nat) (cI cZ cW cJ : ClassId) (v1 : Int32)   : ROi l y_St_greatestOwn b_St_greatestOwn 4 (.int) (rL 5) (cB dC dI ad cI cZ cW cJ E F G P N) [.ref (ad 1), .int v1] (p_St_greatestOwn n E F G P N v1 ) := by
  refine en_roi (by decide) (Nat.le_of_ble_eq_true rfl) ?_
  intro z hf p e s m args below meth c ls hx hb hml hown hT hr hlk hB hl
  obtain ⟨hK, hP, hp, hi⟩ := hB
  have hl : lv_has ls 4 [(0, .ref (ad 1)), (1, .int v1)] := hl
  unfold p_St_greatestOwn at hf
  refine lv_bipush (v := 99) hx hb d_St_greatestOwn_0 (by decide) ?_
  refine lv_istore_n (lv' := [(2, .int 99), (0, .ref (ad 1)), (1, .int v1)]) hx hb d_St_greatestOwn_2 rfl hl (by decide) rfl (fun ls hl => ?_)
  refine lv_iconst (v := 0) hx hb d_St_greatestOwn_3 (by decide) ?_
  refine lv_istore_n (lv' := [(3, .int 0), (2, .int 99), (0, .ref (ad 1)), (1, .int v1)]) hx hb d_St_greatestOwn_4 rfl hl (by decide) rfl (fun ls hl => ?_)
  obtain ⟨y5, he, hf⟩ := op_bind hf
  refine wl_St_greatestOwn_5 hx hb hml hown hT hr hlk hK hP hp hi n v1 n 99 0 _ he (fun ls hl => ?_) ls (lv_sub hl [2, 3, 1, 0] rfl)
  refine lv_iload_n hx hb d_St_greatestOwn_44 rfl (lv_at hl 0 rfl) ?_
  obtain rfl := op_i1 hf
  exact rt_si hx hb hr hlk rfl d_St_greatestOwn_45
theorem hd_St_rowsAgree : y_St_rowsAgree.cls ≠ "java/lang/invoke/MethodHandle" ∧ y_St_rowsAgree.cls ≠ "java/lang/invoke/VarHandle" ∧ (parseMethodDescriptor y_St_rowsAgree.desc).map (fun d => d.parameters.length) = some 1 := by decide +kernel
theorem d_St_rowsAgree_0 : decode b_St_rowsAgree 0 = .ok (.iconst 0, 1) := by decide +kernel
theorem d_St_rowsAgree_1 : decode b_St_rowsAgree 1 = .ok (.istore_n 2, 1) := by decide +kernel
theorem d_St_rowsAgree_2 : decode b_St_rowsAgree 2 = .ok (.iload_n 2, 1) := by decide +kernel
theorem d_St_rowsAgree_3 : decode b_St_rowsAgree 3 = .ok (.aload_n 0, 1) := by decide +kernel
theorem d_St_rowsAgree_4 : decode b_St_rowsAgree 4 = .ok (.getfield 67, 3) := by decide +kernel
theorem d_St_rowsAgree_7 : decode b_St_rowsAgree 7 = .ok (.if_icmp .ge 74, 3) := by decide +kernel
theorem d_St_rowsAgree_10 : decode b_St_rowsAgree 10 = .ok (.iconst 0, 1) := by decide +kernel
theorem d_St_rowsAgree_11 : decode b_St_rowsAgree 11 = .ok (.istore_n 3, 1) := by decide +kernel
theorem d_St_rowsAgree_12 : decode b_St_rowsAgree 12 = .ok (.iconst 0, 1) := by decide +kernel
theorem d_St_rowsAgree_13 : decode b_St_rowsAgree 13 = .ok (.istore 4, 2) := by decide +kernel
theorem d_St_rowsAgree_15 : decode b_St_rowsAgree 15 = .ok (.iload 4, 2) := by decide +kernel
theorem d_St_rowsAgree_17 : decode b_St_rowsAgree 17 = .ok (.aload_n 0, 1) := by decide +kernel
theorem d_St_rowsAgree_18 : decode b_St_rowsAgree 18 = .ok (.getfield 52, 3) := by decide +kernel
theorem d_St_rowsAgree_21 : decode b_St_rowsAgree 21 = .ok (.if_icmp .ge 48, 3) := by decide +kernel
theorem d_St_rowsAgree_24 : decode b_St_rowsAgree 24 = .ok (.iconst 1, 1) := by decide +kernel
theorem d_St_rowsAgree_25 : decode b_St_rowsAgree 25 = .ok (.iload 4, 2) := by decide +kernel
theorem d_St_rowsAgree_27 : decode b_St_rowsAgree 27 = .ok (.ishl, 1) := by decide +kernel
theorem d_St_rowsAgree_28 : decode b_St_rowsAgree 28 = .ok (.istore 5, 2) := by decide +kernel
theorem d_St_rowsAgree_30 : decode b_St_rowsAgree 30 = .ok (.aload_n 0, 1) := by decide +kernel
theorem d_St_rowsAgree_31 : decode b_St_rowsAgree 31 = .ok (.getfield 30, 3) := by decide +kernel
theorem d_St_rowsAgree_34 : decode b_St_rowsAgree 34 = .ok (.iload_n 2, 1) := by decide +kernel
theorem d_St_rowsAgree_35 : decode b_St_rowsAgree 35 = .ok (.iaload, 1) := by decide +kernel
theorem d_St_rowsAgree_36 : decode b_St_rowsAgree 36 = .ok (.iload 5, 2) := by decide +kernel
theorem d_St_rowsAgree_38 : decode b_St_rowsAgree 38 = .ok (.iand, 1) := by decide +kernel
theorem d_St_rowsAgree_39 : decode b_St_rowsAgree 39 = .ok (.iload_n 1, 1) := by decide +kernel
theorem d_St_rowsAgree_40 : decode b_St_rowsAgree 40 = .ok (.iconst (-1), 1) := by decide +kernel
theorem d_St_rowsAgree_41 : decode b_St_rowsAgree 41 = .ok (.ixor, 1) := by decide +kernel
theorem d_St_rowsAgree_42 : decode b_St_rowsAgree 42 = .ok (.iand, 1) := by decide +kernel
theorem d_St_rowsAgree_43 : decode b_St_rowsAgree 43 = .ok (.ifCond .eq 20, 3) := by decide +kernel
theorem d_St_rowsAgree_46 : decode b_St_rowsAgree 46 = .ok (.aload_n 0, 1) := by decide +kernel
theorem d_St_rowsAgree_47 : decode b_St_rowsAgree 47 = .ok (.iload 4, 2) := by decide +kernel
theorem d_St_rowsAgree_49 : decode b_St_rowsAgree 49 = .ok (.invokevirtual 83, 3) := by decide +kernel
theorem d_St_rowsAgree_52 : decode b_St_rowsAgree 52 = .ok (.aload_n 0, 1) := by decide +kernel
theorem d_St_rowsAgree_53 : decode b_St_rowsAgree 53 = .ok (.getfield 33, 3) := by decide +kernel
theorem d_St_rowsAgree_56 : decode b_St_rowsAgree 56 = .ok (.iload_n 2, 1) := by decide +kernel
theorem d_St_rowsAgree_57 : decode b_St_rowsAgree 57 = .ok (.iaload, 1) := by decide +kernel
theorem d_St_rowsAgree_58 : decode b_St_rowsAgree 58 = .ok (.if_icmp .ne 5, 3) := by decide +kernel
theorem d_St_rowsAgree_61 : decode b_St_rowsAgree 61 = .ok (.iconst 1, 1) := by decide +kernel
theorem d_St_rowsAgree_62 : decode b_St_rowsAgree 62 = .ok (.istore_n 3, 1) := by decide +kernel
theorem d_St_rowsAgree_63 : decode b_St_rowsAgree 63 = .ok (.iinc 4 1, 3) := by decide +kernel
theorem d_St_rowsAgree_66 : decode b_St_rowsAgree 66 = .ok (.goto (-51), 3) := by decide +kernel
theorem d_St_rowsAgree_69 : decode b_St_rowsAgree 69 = .ok (.iload_n 3, 1) := by decide +kernel
theorem d_St_rowsAgree_70 : decode b_St_rowsAgree 70 = .ok (.ifCond .ne 5, 3) := by decide +kernel
theorem d_St_rowsAgree_73 : decode b_St_rowsAgree 73 = .ok (.iconst 0, 1) := by decide +kernel
theorem d_St_rowsAgree_74 : decode b_St_rowsAgree 74 = .ok (.ireturn, 1) := by decide +kernel
theorem d_St_rowsAgree_75 : decode b_St_rowsAgree 75 = .ok (.iinc 2 1, 3) := by decide +kernel
theorem d_St_rowsAgree_78 : decode b_St_rowsAgree 78 = .ok (.goto (-76), 3) := by decide +kernel
theorem d_St_rowsAgree_81 : decode b_St_rowsAgree 81 = .ok (.iconst 1, 1) := by decide +kernel
theorem d_St_rowsAgree_82 : decode b_St_rowsAgree 82 = .ok (.ireturn, 1) := by decide +kernel
def l_St_rowsAgree_15 (n : Nat) (E : PE) (F : Nat → Nat → Int32) (G : Nat → Nat → Int32) (P : Nat → Nat → Option Nat) (N : Nat → Nat)  (v1 : Int32) (v2 : Int32)  : Nat → Int32 → Int32 → Option (Int32)
  | 0, _, _ => none
  | k + 1, v3, v4 => (if (F 1 5) ≤ v4 then some v3 else if ix v2 12 then (if (((G 11 v2.toNatClampNeg) &&& (1 <<< (v4 &&& 31))) &&& (v1 ^^^ (-1))) = 0 then some v3 else (p_St_greatestOwn n E F G P N v4).bind fun x5 => if ix v2 12 then (if x5 = (G 13 v2.toNatClampNeg) then some 1 else some v3) else none : Option (Int32)).bind fun x3 => l_St_rowsAgree_15 n E F G P N v1 v2 k x3 (v4 + 1) else none)
set_option maxHeartbeats 4000000 in
theorem wl_St_rowsAgree_15 {Q : State → Prop}  {p : Program} {l : Launch} {e : Env} {s : State} {m : MethodId} {args : Array Value} {below : List Frame} {meth : Method} {c : Code} (hx : p.tables.exec = Jvm.exec) (hb : c.code = b_St_rowsAgree) (hml : c.maxLocals = 6) (hown : s.vm.findClass "LanternBridge$State" = some m.cls) (hT : ∀ w ∈ WT, w.before args s = true) (hr : meth.sig.returnType = some .boolean) (hlk : meth.locks = false) {dC : Nat → ClassId} {dI : Nat → Nat → Nat} {ad : Nat → Nat} {cI cZ cW cJ : ClassId} {E : PE} {F G : Nat → Nat → Int32} {P : Nat → Nat → Option Nat} {N : Nat → Nat} (hK : cK dC dI cI cZ cW cJ s) (hP : va_P (dC, dI) CL (cX ad cI cZ cW cJ F G P N) s.heap) (hp : pS dC dI cI E (fun _ => False) s.heap) (hi : iS s) (n : Nat)  (v1 : Int32) (v2 : Int32)  : ∀ (k : Nat) (v3 : Int32) (v4 : Int32) (r0 : Int32), l_St_rowsAgree_15 n E F G P N v1 v2 k v3 v4 = some r0 → (∀ (ls : Array Slot), lv_has ls 6 [(0, .ref (ad 1)), (1, .int v1), (2, .int v2), (3, .int r0)] → W p l e (rL 6) s m args below meth c s.heap [] 0 0 Q (F0 m 69 ls [])) → ∀ (ls : Array Slot), lv_has ls 6 [(0, .ref (ad 1)), (1, .int v1), (2, .int v2), (3, .int v3), (4, .int v4)] → W p l e (rL 6) s m args below meth c s.heap [] 0 0 Q (F0 m 15 ls []) := by
  intro k
  induction k with
  | zero => intro v3 v4 r0 hf; exact absurd hf (by unfold l_St_rowsAgree_15; exact fun h9 => by cases h9)
  | succ k ih =>
    intro v3 v4 r0 hf K ls hl
    unfold l_St_rowsAgree_15 at hf
    refine lv_iload hx hb d_St_rowsAgree_15 (lv_at hl 4 rfl) ?_
    refine lv_aload_n hx hb d_St_rowsAgree_17 rfl (lv_at hl 0 rfl) ?_
    refine cg_1_5 hx hb hT hown hK hP fl_St_52 d_St_rowsAgree_18 ?_
    refine lv_icmp_ge (tgt := 69) hx hb d_St_rowsAgree_21 (by decide) (fun hc => ?_) (fun hc => ?_)
    · have hf := op_t hc hf
      obtain rfl := op_i1 hf
      exact K ls (lv_sub hl [0, 1, 2, 3] rfl)
    · have hf := op_f hc hf
      refine lv_iconst (v := 1) hx hb d_St_rowsAgree_24 (by decide) ?_
      refine lv_iload hx hb d_St_rowsAgree_25 (lv_at hl 4 rfl) ?_
      refine lv_ishl hx hb d_St_rowsAgree_27 ?_
      refine lv_istore (lv' := [(5, .int (1 <<< (v4 &&& 31))), (0, .ref (ad 1)), (1, .int v1), (2, .int v2), (3, .int v3), (4, .int v4)]) hx hb d_St_rowsAgree_28 hl (by decide) rfl (fun ls hl => ?_)
      refine lv_aload_n hx hb d_St_rowsAgree_30 rfl (lv_at hl 1 rfl) ?_
      refine cg_1_10 hx hb hT hown hK hP fl_St_30 d_St_rowsAgree_31 ?_
      refine lv_iload_n hx hb d_St_rowsAgree_34 rfl (lv_at hl 3 rfl) ?_
      obtain ⟨h1, hf⟩ := op_if hf
      refine ca_11 hx hb hK hP rfl h1 d_St_rowsAgree_35 ?_
      refine lv_iload hx hb d_St_rowsAgree_36 (lv_at hl 0 rfl) ?_
      refine lv_iand hx hb d_St_rowsAgree_38 ?_
      refine lv_iload_n hx hb d_St_rowsAgree_39 rfl (lv_at hl 2 rfl) ?_
      refine lv_iconst (v := (-1)) hx hb d_St_rowsAgree_40 (by decide) ?_
      refine lv_ixor hx hb d_St_rowsAgree_41 ?_
      refine lv_iand hx hb d_St_rowsAgree_42 ?_
      obtain ⟨x3, he, hf⟩ := op_bind hf
      have K2 : ∀ (ls : Array Slot), lv_has ls 6 [(0, .ref (ad 1)), (1, .int v1), (2, .int v2), (3, .int x3), (4, .int v4)] → W p l e (rL 6) s m args below meth c s.heap [] 0 0 Q (F0 m 63 ls []) := by
        intro ls hl
        refine lv_iinc (v := (v4 + 1)) (lv' := [(4, .int (v4 + 1)), (0, .ref (ad 1)), (1, .int v1), (2, .int v2), (3, .int x3)]) hx hb d_St_rowsAgree_63 hl (k := 4) rfl rfl (by decide) rfl (fun ls hl => ?_)
        refine lv_goto (tgt := 15) hx hb d_St_rowsAgree_66 (by decide) ?_
        exact ih x3 (v4 + 1) _ hf K ls (lv_sub hl [1, 2, 3, 4, 0] rfl)
      have hf := he
      refine lv_if_eq (tgt := 63) hx hb d_St_rowsAgree_43 (by decide) (fun hc => ?_) (fun hc => ?_)
      · have hf := op_t hc hf
        obtain rfl := op_i1 hf
        exact K2 ls (lv_sub hl [1, 2, 3, 4, 5] rfl)
      · have hf := op_f hc hf
        refine lv_aload_n hx hb d_St_rowsAgree_46 rfl (lv_at hl 1 rfl) ?_
        refine lv_iload hx hb d_St_rowsAgree_47 (lv_at hl 5 rfl) ?_
        obtain ⟨x5, hc4, hf⟩ := op_bind hf
        refine kr_i (C := R_St) (b0 := ad 1) (rest := []) hx hb hml hown hT cB_bl (cB_to hK hP hp hi) (va_recv hK hP (ci := 7) (q0 := 1) rfl rfl) (c_St_greatestOwn l n E F G P N dC dI ad cI cZ cW cJ v4 _ hc4) (cbW 1 hT cd_St_greatestOwn rfl rfl ini_St ml_St_83 hd_St_greatestOwn ⟨Nat.le_of_ble_eq_true rfl, Nat.le_of_ble_eq_true rfl⟩) im_St_greatestOwn se_St_St_greatestOwn__St_greatestOwn rfl hl.1 rfl (Nat.le_of_ble_eq_true rfl) d_St_rowsAgree_49 ⟨Nat.zero_le _, Nat.zero_le _⟩ ?_
        refine lv_aload_n hx hb d_St_rowsAgree_52 rfl (lv_at hl 1 rfl) ?_
        refine cg_1_11 hx hb hT hown hK hP fl_St_33 d_St_rowsAgree_53 ?_
        refine lv_iload_n hx hb d_St_rowsAgree_56 rfl (lv_at hl 3 rfl) ?_
        obtain ⟨h6, hf⟩ := op_if hf
        refine ca_13 hx hb hK hP rfl h6 d_St_rowsAgree_57 ?_
        refine lv_icmp_ne (tgt := 63) hx hb d_St_rowsAgree_58 (by decide) (fun hc => ?_) (fun hc => ?_)
        · have hf := op_f hc hf
          obtain rfl := op_i1 hf
          exact K2 ls (lv_sub hl [1, 2, 3, 4, 5] rfl)
        · have hf := op_t hc hf
          refine lv_iconst (v := 1) hx hb d_St_rowsAgree_61 (by decide) ?_
          refine lv_istore_n (lv' := [(3, .int 1), (5, .int (1 <<< (v4 &&& 31))), (0, .ref (ad 1)), (1, .int v1), (2, .int v2), (4, .int v4)]) hx hb d_St_rowsAgree_62 rfl hl (by decide) rfl (fun ls hl => ?_)
          obtain rfl := op_i1 hf
          exact K2 ls (lv_sub hl [2, 3, 4, 0, 5] rfl)
def l_St_rowsAgree_2 (n : Nat) (E : PE) (F : Nat → Nat → Int32) (G : Nat → Nat → Int32) (P : Nat → Nat → Option Nat) (N : Nat → Nat)  (v1 : Int32)  : Nat → Int32 → Option (Int32)
  | 0, _ => none
  | k + 1, v2 => (if (F 1 12) ≤ v2 then some 1 else (l_St_rowsAgree_15 n E F G P N v1 v2 n 0 0).bind fun y7 => (if y7 = 0 then some 0 else l_St_rowsAgree_2 n E F G P N v1 k (v2 + 1)))
set_option maxHeartbeats 4000000 in
theorem wl_St_rowsAgree_2  {p : Program} {l : Launch} {e : Env} {s : State} {m : MethodId} {args : Array Value} {below : List Frame} {meth : Method} {c : Code} (hx : p.tables.exec = Jvm.exec) (hb : c.code = b_St_rowsAgree) (hml : c.maxLocals = 6) (hown : s.vm.findClass "LanternBridge$State" = some m.cls) (hT : ∀ w ∈ WT, w.before args s = true) (hr : meth.sig.returnType = some .boolean) (hlk : meth.locks = false) {dC : Nat → ClassId} {dI : Nat → Nat → Nat} {ad : Nat → Nat} {cI cZ cW cJ : ClassId} {E : PE} {F G : Nat → Nat → Int32} {P : Nat → Nat → Option Nat} {N : Nat → Nat} (hK : cK dC dI cI cZ cW cJ s) (hP : va_P (dC, dI) CL (cX ad cI cZ cW cJ F G P N) s.heap) (hp : pS dC dI cI E (fun _ => False) s.heap) (hi : iS s) (n : Nat)  (v1 : Int32)  : ∀ (k : Nat) (v2 : Int32) (z : Int32), l_St_rowsAgree_2 n E F G P N v1 k v2 = some z → ∀ (ls : Array Slot), lv_has ls 6 [(0, .ref (ad 1)), (1, .int v1), (2, .int v2)] → W p l e (rL 6) s m args below meth c s.heap [] 0 0 (MQ below (fun _ st oc t => oc = .returned (some (.int z)) ∧ t.heap = st.heap) args s 0 0 (fun _ => False)) (F0 m 2 ls []) := by
  intro k
  induction k with
  | zero => intro v2 z hf; exact absurd hf (by unfold l_St_rowsAgree_2; exact fun h9 => by cases h9)
  | succ k ih =>
    intro v2 z hf ls hl
    unfold l_St_rowsAgree_2 at hf
    refine lv_iload_n hx hb d_St_rowsAgree_2 rfl (lv_at hl 2 rfl) ?_
    refine lv_aload_n hx hb d_St_rowsAgree_3 rfl (lv_at hl 0 rfl) ?_
    refine cg_1_12 hx hb hT hown hK hP fl_St_67 d_St_rowsAgree_4 ?_
    refine lv_icmp_ge (tgt := 81) hx hb d_St_rowsAgree_7 (by decide) (fun hc => ?_) (fun hc => ?_)
    · have hf := op_t hc hf
      refine lv_iconst (v := 1) hx hb d_St_rowsAgree_81 (by decide) ?_
      obtain rfl := op_i1 hf
      exact rt_si hx hb hr hlk (by decide) d_St_rowsAgree_82
    · have hf := op_f hc hf
      refine lv_iconst (v := 0) hx hb d_St_rowsAgree_10 (by decide) ?_
      refine lv_istore_n (lv' := [(3, .int 0), (0, .ref (ad 1)), (1, .int v1), (2, .int v2)]) hx hb d_St_rowsAgree_11 rfl hl (by decide) rfl (fun ls hl => ?_)
      refine lv_iconst (v := 0) hx hb d_St_rowsAgree_12 (by decide) ?_
      refine lv_istore (lv' := [(4, .int 0), (3, .int 0), (0, .ref (ad 1)), (1, .int v1), (2, .int v2)]) hx hb d_St_rowsAgree_13 hl (by decide) rfl (fun ls hl => ?_)
      obtain ⟨y7, he, hf⟩ := op_bind hf
      refine wl_St_rowsAgree_15 hx hb hml hown hT hr hlk hK hP hp hi n v1 v2 n 0 0 _ he (fun ls hl => ?_) ls (lv_sub hl [2, 3, 4, 1, 0] rfl)
      refine lv_iload_n hx hb d_St_rowsAgree_69 rfl (lv_at hl 3 rfl) ?_
      refine lv_if_ne (tgt := 75) hx hb d_St_rowsAgree_70 (by decide) (fun hc => ?_) (fun hc => ?_)
      · have hf := op_f hc hf
        refine lv_iinc (v := (v2 + 1)) (lv' := [(2, .int (v2 + 1)), (0, .ref (ad 1)), (1, .int v1), (3, .int y7)]) hx hb d_St_rowsAgree_75 hl (k := 2) rfl rfl (by decide) rfl (fun ls hl => ?_)
        refine lv_goto (tgt := 2) hx hb d_St_rowsAgree_78 (by decide) ?_
        exact ih (v2 + 1) _ hf ls (lv_sub hl [1, 2, 0] rfl)
      · have hf := op_t hc hf
        refine lv_iconst (v := 0) hx hb d_St_rowsAgree_73 (by decide) ?_
        obtain rfl := op_i1 hf
        exact rt_si hx hb hr hlk (by decide) d_St_rowsAgree_74
def p_St_rowsAgree (n : Nat) (E : PE) (F : Nat → Nat → Int32) (G : Nat → Nat → Int32) (P : Nat → Nat → Option Nat) (N : Nat → Nat) (v1 : Int32)  : Option (Int32) := l_St_rowsAgree_2 n E F G P N v1 n 0
set_option maxHeartbeats 4000000 in
theorem c_St_rowsAgree (l : Launch) (n : Nat) (E : PE) (F : Nat → Nat → Int32) (G : Nat → Nat → Int32) (P : Nat → Nat → Option Nat) (N : Nat → Nat) (dC : Nat → ClassId) (dI : Nat → Nat → Nat) (ad : Nat → Nat) (cI cZ cW cJ : ClassId) (v1 : Int32)   : ROi l y_St_rowsAgree b_St_rowsAgree 6 (.boolean) (rL 6) (cB dC dI ad cI cZ cW cJ E F G P N) [.ref (ad 1), .int v1] (p_St_rowsAgree n E F G P N v1 ) := by
  refine en_roi (by decide) (Nat.le_of_ble_eq_true rfl) ?_
  intro z hf p e s m args below meth c ls hx hb hml hown hT hr hlk hB hl
  obtain ⟨hK, hP, hp, hi⟩ := hB
  have hl : lv_has ls 6 [(0, .ref (ad 1)), (1, .int v1)] := hl
  unfold p_St_rowsAgree at hf
  refine lv_iconst (v := 0) hx hb d_St_rowsAgree_0 (by decide) ?_
  refine lv_istore_n (lv' := [(2, .int 0), (0, .ref (ad 1)), (1, .int v1)]) hx hb d_St_rowsAgree_1 rfl hl (by decide) rfl (fun ls hl => ?_)
  exact wl_St_rowsAgree_2 hx hb hml hown hT hr hlk hK hP hp hi n v1 n 0 _ hf ls (lv_sub hl [1, 2, 0] rfl)
theorem hd_St_copyFrom : y_St_copyFrom.cls ≠ "java/lang/invoke/MethodHandle" ∧ y_St_copyFrom.cls ≠ "java/lang/invoke/VarHandle" ∧ (parseMethodDescriptor y_St_copyFrom.desc).map (fun d => d.parameters.length) = some 1 := by decide +kernel
theorem d_St_copyFrom_0 : decode b_St_copyFrom 0 = .ok (.aload_n 1, 1) := by decide +kernel
theorem d_St_copyFrom_1 : decode b_St_copyFrom 1 = .ok (.getfield 9, 3) := by decide +kernel
theorem d_St_copyFrom_4 : decode b_St_copyFrom 4 = .ok (.iconst 0, 1) := by decide +kernel
theorem d_St_copyFrom_5 : decode b_St_copyFrom 5 = .ok (.aload_n 0, 1) := by decide +kernel
theorem d_St_copyFrom_6 : decode b_St_copyFrom 6 = .ok (.getfield 9, 3) := by decide +kernel
theorem d_St_copyFrom_9 : decode b_St_copyFrom 9 = .ok (.iconst 0, 1) := by decide +kernel
theorem d_St_copyFrom_10 : decode b_St_copyFrom 10 = .ok (.bipush 100, 2) := by decide +kernel
theorem d_St_copyFrom_12 : decode b_St_copyFrom 12 = .ok (.invokestatic 39, 3) := by decide +kernel
theorem d_St_copyFrom_15 : decode b_St_copyFrom 15 = .ok (.aload_n 0, 1) := by decide +kernel
theorem d_St_copyFrom_16 : decode b_St_copyFrom 16 = .ok (.aload_n 1, 1) := by decide +kernel
theorem d_St_copyFrom_17 : decode b_St_copyFrom 17 = .ok (.getfield 45, 3) := by decide +kernel
theorem d_St_copyFrom_20 : decode b_St_copyFrom 20 = .ok (.putfield 45, 3) := by decide +kernel
theorem d_St_copyFrom_23 : decode b_St_copyFrom 23 = .ok (.aload_n 0, 1) := by decide +kernel
theorem d_St_copyFrom_24 : decode b_St_copyFrom 24 = .ok (.aload_n 1, 1) := by decide +kernel
theorem d_St_copyFrom_25 : decode b_St_copyFrom 25 = .ok (.getfield 20, 3) := by decide +kernel
theorem d_St_copyFrom_28 : decode b_St_copyFrom 28 = .ok (.putfield 20, 3) := by decide +kernel
theorem d_St_copyFrom_31 : decode b_St_copyFrom 31 = .ok (.aload_n 0, 1) := by decide +kernel
theorem d_St_copyFrom_32 : decode b_St_copyFrom 32 = .ok (.aload_n 1, 1) := by decide +kernel
theorem d_St_copyFrom_33 : decode b_St_copyFrom 33 = .ok (.getfield 49, 3) := by decide +kernel
theorem d_St_copyFrom_36 : decode b_St_copyFrom 36 = .ok (.putfield 49, 3) := by decide +kernel
theorem d_St_copyFrom_39 : decode b_St_copyFrom 39 = .ok (.iconst 0, 1) := by decide +kernel
theorem d_St_copyFrom_40 : decode b_St_copyFrom 40 = .ok (.istore_n 2, 1) := by decide +kernel
theorem d_St_copyFrom_41 : decode b_St_copyFrom 41 = .ok (.iload_n 2, 1) := by decide +kernel
theorem d_St_copyFrom_42 : decode b_St_copyFrom 42 = .ok (.bipush 6, 2) := by decide +kernel
theorem d_St_copyFrom_44 : decode b_St_copyFrom 44 = .ok (.if_icmp .ge 21, 3) := by decide +kernel
theorem d_St_copyFrom_47 : decode b_St_copyFrom 47 = .ok (.aload_n 0, 1) := by decide +kernel
theorem d_St_copyFrom_48 : decode b_St_copyFrom 48 = .ok (.getfield 26, 3) := by decide +kernel
theorem d_St_copyFrom_51 : decode b_St_copyFrom 51 = .ok (.iload_n 2, 1) := by decide +kernel
theorem d_St_copyFrom_52 : decode b_St_copyFrom 52 = .ok (.aload_n 1, 1) := by decide +kernel
theorem d_St_copyFrom_53 : decode b_St_copyFrom 53 = .ok (.getfield 26, 3) := by decide +kernel
theorem d_St_copyFrom_56 : decode b_St_copyFrom 56 = .ok (.iload_n 2, 1) := by decide +kernel
theorem d_St_copyFrom_57 : decode b_St_copyFrom 57 = .ok (.aaload, 1) := by decide +kernel
theorem d_St_copyFrom_58 : decode b_St_copyFrom 58 = .ok (.aastore, 1) := by decide +kernel
theorem d_St_copyFrom_59 : decode b_St_copyFrom 59 = .ok (.iinc 2 1, 3) := by decide +kernel
theorem d_St_copyFrom_62 : decode b_St_copyFrom 62 = .ok (.goto (-21), 3) := by decide +kernel
theorem d_St_copyFrom_65 : decode b_St_copyFrom 65 = .ok (.aload_n 0, 1) := by decide +kernel
theorem d_St_copyFrom_66 : decode b_St_copyFrom 66 = .ok (.aload_n 1, 1) := by decide +kernel
theorem d_St_copyFrom_67 : decode b_St_copyFrom 67 = .ok (.getfield 52, 3) := by decide +kernel
theorem d_St_copyFrom_70 : decode b_St_copyFrom 70 = .ok (.putfield 52, 3) := by decide +kernel
theorem d_St_copyFrom_73 : decode b_St_copyFrom 73 = .ok (.aload_n 0, 1) := by decide +kernel
theorem d_St_copyFrom_74 : decode b_St_copyFrom 74 = .ok (.aload_n 1, 1) := by decide +kernel
theorem d_St_copyFrom_75 : decode b_St_copyFrom 75 = .ok (.getfield 55, 3) := by decide +kernel
theorem d_St_copyFrom_78 : decode b_St_copyFrom 78 = .ok (.putfield 55, 3) := by decide +kernel
theorem d_St_copyFrom_81 : decode b_St_copyFrom 81 = .ok (.aload_n 0, 1) := by decide +kernel
theorem d_St_copyFrom_82 : decode b_St_copyFrom 82 = .ok (.aload_n 1, 1) := by decide +kernel
theorem d_St_copyFrom_83 : decode b_St_copyFrom 83 = .ok (.getfield 58, 3) := by decide +kernel
theorem d_St_copyFrom_86 : decode b_St_copyFrom 86 = .ok (.putfield 58, 3) := by decide +kernel
theorem d_St_copyFrom_89 : decode b_St_copyFrom 89 = .ok (.aload_n 0, 1) := by decide +kernel
theorem d_St_copyFrom_90 : decode b_St_copyFrom 90 = .ok (.aload_n 1, 1) := by decide +kernel
theorem d_St_copyFrom_91 : decode b_St_copyFrom 91 = .ok (.getfield 61, 3) := by decide +kernel
theorem d_St_copyFrom_94 : decode b_St_copyFrom 94 = .ok (.putfield 61, 3) := by decide +kernel
theorem d_St_copyFrom_97 : decode b_St_copyFrom 97 = .ok (.aload_n 0, 1) := by decide +kernel
theorem d_St_copyFrom_98 : decode b_St_copyFrom 98 = .ok (.aload_n 1, 1) := by decide +kernel
theorem d_St_copyFrom_99 : decode b_St_copyFrom 99 = .ok (.getfield 64, 3) := by decide +kernel
theorem d_St_copyFrom_102 : decode b_St_copyFrom 102 = .ok (.putfield 64, 3) := by decide +kernel
theorem d_St_copyFrom_105 : decode b_St_copyFrom 105 = .ok (.aload_n 1, 1) := by decide +kernel
theorem d_St_copyFrom_106 : decode b_St_copyFrom 106 = .ok (.getfield 30, 3) := by decide +kernel
theorem d_St_copyFrom_109 : decode b_St_copyFrom 109 = .ok (.iconst 0, 1) := by decide +kernel
theorem d_St_copyFrom_110 : decode b_St_copyFrom 110 = .ok (.aload_n 0, 1) := by decide +kernel
theorem d_St_copyFrom_111 : decode b_St_copyFrom 111 = .ok (.getfield 30, 3) := by decide +kernel
theorem d_St_copyFrom_114 : decode b_St_copyFrom 114 = .ok (.iconst 0, 1) := by decide +kernel
theorem d_St_copyFrom_115 : decode b_St_copyFrom 115 = .ok (.bipush 12, 2) := by decide +kernel
theorem d_St_copyFrom_117 : decode b_St_copyFrom 117 = .ok (.invokestatic 39, 3) := by decide +kernel
theorem d_St_copyFrom_120 : decode b_St_copyFrom 120 = .ok (.aload_n 1, 1) := by decide +kernel
theorem d_St_copyFrom_121 : decode b_St_copyFrom 121 = .ok (.getfield 33, 3) := by decide +kernel
theorem d_St_copyFrom_124 : decode b_St_copyFrom 124 = .ok (.iconst 0, 1) := by decide +kernel
theorem d_St_copyFrom_125 : decode b_St_copyFrom 125 = .ok (.aload_n 0, 1) := by decide +kernel
theorem d_St_copyFrom_126 : decode b_St_copyFrom 126 = .ok (.getfield 33, 3) := by decide +kernel
theorem d_St_copyFrom_129 : decode b_St_copyFrom 129 = .ok (.iconst 0, 1) := by decide +kernel
theorem d_St_copyFrom_130 : decode b_St_copyFrom 130 = .ok (.bipush 12, 2) := by decide +kernel
theorem d_St_copyFrom_132 : decode b_St_copyFrom 132 = .ok (.invokestatic 39, 3) := by decide +kernel
theorem d_St_copyFrom_135 : decode b_St_copyFrom 135 = .ok (.aload_n 0, 1) := by decide +kernel
theorem d_St_copyFrom_136 : decode b_St_copyFrom 136 = .ok (.aload_n 1, 1) := by decide +kernel
theorem d_St_copyFrom_137 : decode b_St_copyFrom 137 = .ok (.getfield 67, 3) := by decide +kernel
theorem d_St_copyFrom_140 : decode b_St_copyFrom 140 = .ok (.putfield 67, 3) := by decide +kernel
theorem d_St_copyFrom_143 : decode b_St_copyFrom 143 = .ok (.aload_n 1, 1) := by decide +kernel
theorem d_St_copyFrom_144 : decode b_St_copyFrom 144 = .ok (.getfield 36, 3) := by decide +kernel
theorem d_St_copyFrom_147 : decode b_St_copyFrom 147 = .ok (.iconst 0, 1) := by decide +kernel
theorem d_St_copyFrom_148 : decode b_St_copyFrom 148 = .ok (.aload_n 0, 1) := by decide +kernel
theorem d_St_copyFrom_149 : decode b_St_copyFrom 149 = .ok (.getfield 36, 3) := by decide +kernel
theorem d_St_copyFrom_152 : decode b_St_copyFrom 152 = .ok (.iconst 0, 1) := by decide +kernel
theorem d_St_copyFrom_153 : decode b_St_copyFrom 153 = .ok (.bipush 12, 2) := by decide +kernel
theorem d_St_copyFrom_155 : decode b_St_copyFrom 155 = .ok (.invokestatic 39, 3) := by decide +kernel
theorem d_St_copyFrom_158 : decode b_St_copyFrom 158 = .ok (.aload_n 0, 1) := by decide +kernel
theorem d_St_copyFrom_159 : decode b_St_copyFrom 159 = .ok (.aload_n 1, 1) := by decide +kernel
theorem d_St_copyFrom_160 : decode b_St_copyFrom 160 = .ok (.getfield 70, 3) := by decide +kernel
theorem d_St_copyFrom_163 : decode b_St_copyFrom 163 = .ok (.putfield 70, 3) := by decide +kernel
theorem d_St_copyFrom_166 : decode b_St_copyFrom 166 = .ok (.return_, 1) := by decide +kernel
def l_St_copyFrom_k_41 (n : Nat) (E : PE)    : Nat → Int32 → (Nat → Nat → Int32) → (Nat → Nat → Int32) → (Nat → Nat → Option Nat) → (Nat → Nat) → Option ((Nat → Nat → Int32) × (Nat → Nat → Int32) × (Nat → Nat → Option Nat) × (Nat → Nat))
  | 0, _, _, _, _, _ => none
  | k + 1, v2, F, G, P, N => (if 6 ≤ v2 then some (F, G, P, N) else if ix v2 6 then (some (P 8 v2.toNatClampNeg)).bind fun q2 => if ix v2 6 then if Option.all (eV E) q2 = true then l_St_copyFrom_k_41 n E k (v2 + 1) F G (upP P 9 v2.toNatClampNeg q2) N else none else none else none)
set_option maxHeartbeats 4000000 in
theorem wl_St_copyFrom_k_41 {Q : State → Prop}  {p : Program} {l : Launch} {e : Env} {s : State} {m : MethodId} {args : Array Value} {below : List Frame} {meth : Method} {c : Code} {dC : Nat → ClassId} {dI : Nat → Nat → Nat} {ad : Nat → Nat} {cI cZ cW cJ : ClassId} {A : Nat → Prop} {adK adV : Nat → Nat} {E : PE} (C : cC p s m args c b_St_copyFrom 3 "LanternBridge$State" dC dI cI cZ cW cJ A adK adV E) (hA : ∀ q, s.heap.size ≤ q → A q) (hr : meth.sig.returnType = none) (hlk : meth.locks = false) (n : Nat)    : ∀ (k : Nat) (v2 : Int32) (F : Nat → Nat → Int32) (G : Nat → Nat → Int32) (P : Nat → Nat → Option Nat) (N : Nat → Nat) (r0 : Nat → Nat → Int32) (r1 : Nat → Nat → Int32) (r2 : Nat → Nat → Option Nat) (r3 : Nat → Nat), l_St_copyFrom_k_41 n E k v2 F G P N = some (r0, r1, r2, r3) → (∀ (ls : Array Slot), lv_has ls 3 [(0, .ref (ad 2)), (1, .ref (ad 1))] → ∀ (H : Heap) (locs : List Loc), cH A s.heap dC dI ad cI cZ cW cJ r0 r1 r2 r3 H locs → W p l e (rL 5) s m args below meth c H locs 0 0 Q (F0 m 65 ls [])) → ∀ (ls : Array Slot), lv_has ls 3 [(0, .ref (ad 2)), (1, .ref (ad 1)), (2, .int v2)] → ∀ (H : Heap) (locs : List Loc), cH A s.heap dC dI ad cI cZ cW cJ F G P N H locs → W p l e (rL 5) s m args below meth c H locs 0 0 Q (F0 m 41 ls []) := by
  obtain ⟨hx, hb, hml, hown, hT, hK, hTS, hTR, hpS, hi⟩ := id C
  intro k
  induction k with
  | zero => intro v2 F G P N r0 r1 r2 r3 hf; exact absurd hf (by unfold l_St_copyFrom_k_41; exact fun h9 => by cases h9)
  | succ k ih =>
    intro v2 F G P N r0 r1 r2 r3 hf K ls hl H locs h
    unfold l_St_copyFrom_k_41 at hf
    refine lv_iload_n hx hb d_St_copyFrom_41 rfl (lv_at hl 2 rfl) ?_
    refine lv_bipush (v := 6) hx hb d_St_copyFrom_42 (by decide) ?_
    refine lv_icmp_ge (tgt := 65) hx hb d_St_copyFrom_44 (by decide) (fun hc => ?_) (fun hc => ?_)
    · have hf := op_t hc hf
      obtain ⟨rfl, rfl, rfl, rfl⟩ := op_i4 hf
      exact K ls (lv_sub hl [0, 1] rfl) H locs h
    · have hf := op_f hc hf
      refine lv_aload_n hx hb d_St_copyFrom_47 rfl (lv_at hl 0 rfl) ?_
      refine cg_2_4 hx hb hT hown hK h.1 fl_St_26 d_St_copyFrom_48 ?_
      refine lv_iload_n hx hb d_St_copyFrom_51 rfl (lv_at hl 2 rfl) ?_
      refine lv_aload_n hx hb d_St_copyFrom_52 rfl (lv_at hl 1 rfl) ?_
      refine cg_1_4 hx hb hT hown hK h.1 fl_St_26 d_St_copyFrom_53 ?_
      refine lv_iload_n hx hb d_St_copyFrom_56 rfl (lv_at hl 2 rfl) ?_
      obtain ⟨h1, hf⟩ := op_if hf
      obtain ⟨q2, hq2, hf⟩ := op_bind hf
      refine cq_8 hx hb hK h.1 rfl h1 d_St_copyFrom_57 ?_
      rw [op_i1 hq2]
      obtain ⟨h3, hf⟩ := op_if hf
      obtain ⟨h4, hf⟩ := op_if hf
      refine cw_9 (q := q2) hx hb hK h (fun v hv9 => by rw [hv9] at h4; exact w_any hK hi ((cpS hpS h).1 v h4).1 ((cpS hpS h).1 v h4).2.1) rfl h3 d_St_copyFrom_58 (fun H locs h => ?_)
      refine lv_iinc (v := (v2 + 1)) (lv' := [(2, .int (v2 + 1)), (0, .ref (ad 2)), (1, .ref (ad 1))]) hx hb d_St_copyFrom_59 hl (k := 2) rfl rfl (by decide) rfl (fun ls hl => ?_)
      refine lv_goto (tgt := 41) hx hb d_St_copyFrom_62 (by decide) ?_
      exact ih (v2 + 1) F G (upP P 9 v2.toNatClampNeg q2) N _ _ _ _ hf K ls (lv_sub hl [1, 2, 0] rfl) H locs h
def p_St_copyFrom_k (n : Nat) (E : PE)  (F : Nat → Nat → Int32) (G : Nat → Nat → Int32) (P : Nat → Nat → Option Nat) (N : Nat → Nat) : Option (CU) := (l_St_copyFrom_k_41 n E n 0 ((upR (upR F 2 1 (F 1 1)) 2 3 ((upR F 2 1 (F 1 1)) 1 3))) (upC G 7 6 100) P (upN N 2 (N 1))).bind fun (F5, G6, P7, N8) => some ((upR (upR (upR (upR (upR (upR (upR F5 2 5 (F5 1 5)) 2 6 ((upR F5 2 5 (F5 1 5)) 1 6)) 2 7 (((upR (upR F5 2 5 (F5 1 5)) 2 6 ((upR F5 2 5 (F5 1 5)) 1 6)) 1 7))) 2 8 (((upR (upR (upR F5 2 5 (F5 1 5)) 2 6 ((upR F5 2 5 (F5 1 5)) 1 6)) 2 7 (((upR (upR F5 2 5 (F5 1 5)) 2 6 ((upR F5 2 5 (F5 1 5)) 1 6)) 1 7))) 1 8))) 2 9 (((upR (upR (upR (upR F5 2 5 (F5 1 5)) 2 6 ((upR F5 2 5 (F5 1 5)) 1 6)) 2 7 (((upR (upR F5 2 5 (F5 1 5)) 2 6 ((upR F5 2 5 (F5 1 5)) 1 6)) 1 7))) 2 8 (((upR (upR (upR F5 2 5 (F5 1 5)) 2 6 ((upR F5 2 5 (F5 1 5)) 1 6)) 2 7 (((upR (upR F5 2 5 (F5 1 5)) 2 6 ((upR F5 2 5 (F5 1 5)) 1 6)) 1 7))) 1 8))) 1 9))) 2 12 (((upR (upR (upR (upR (upR F5 2 5 (F5 1 5)) 2 6 ((upR F5 2 5 (F5 1 5)) 1 6)) 2 7 (((upR (upR F5 2 5 (F5 1 5)) 2 6 ((upR F5 2 5 (F5 1 5)) 1 6)) 1 7))) 2 8 (((upR (upR (upR F5 2 5 (F5 1 5)) 2 6 ((upR F5 2 5 (F5 1 5)) 1 6)) 2 7 (((upR (upR F5 2 5 (F5 1 5)) 2 6 ((upR F5 2 5 (F5 1 5)) 1 6)) 1 7))) 1 8))) 2 9 (((upR (upR (upR (upR F5 2 5 (F5 1 5)) 2 6 ((upR F5 2 5 (F5 1 5)) 1 6)) 2 7 (((upR (upR F5 2 5 (F5 1 5)) 2 6 ((upR F5 2 5 (F5 1 5)) 1 6)) 1 7))) 2 8 (((upR (upR (upR F5 2 5 (F5 1 5)) 2 6 ((upR F5 2 5 (F5 1 5)) 1 6)) 2 7 (((upR (upR F5 2 5 (F5 1 5)) 2 6 ((upR F5 2 5 (F5 1 5)) 1 6)) 1 7))) 1 8))) 1 9))) 1 12))) 2 14 (((upR (upR (upR (upR (upR (upR F5 2 5 (F5 1 5)) 2 6 ((upR F5 2 5 (F5 1 5)) 1 6)) 2 7 (((upR (upR F5 2 5 (F5 1 5)) 2 6 ((upR F5 2 5 (F5 1 5)) 1 6)) 1 7))) 2 8 (((upR (upR (upR F5 2 5 (F5 1 5)) 2 6 ((upR F5 2 5 (F5 1 5)) 1 6)) 2 7 (((upR (upR F5 2 5 (F5 1 5)) 2 6 ((upR F5 2 5 (F5 1 5)) 1 6)) 1 7))) 1 8))) 2 9 (((upR (upR (upR (upR F5 2 5 (F5 1 5)) 2 6 ((upR F5 2 5 (F5 1 5)) 1 6)) 2 7 (((upR (upR F5 2 5 (F5 1 5)) 2 6 ((upR F5 2 5 (F5 1 5)) 1 6)) 1 7))) 2 8 (((upR (upR (upR F5 2 5 (F5 1 5)) 2 6 ((upR F5 2 5 (F5 1 5)) 1 6)) 2 7 (((upR (upR F5 2 5 (F5 1 5)) 2 6 ((upR F5 2 5 (F5 1 5)) 1 6)) 1 7))) 1 8))) 1 9))) 2 12 (((upR (upR (upR (upR (upR F5 2 5 (F5 1 5)) 2 6 ((upR F5 2 5 (F5 1 5)) 1 6)) 2 7 (((upR (upR F5 2 5 (F5 1 5)) 2 6 ((upR F5 2 5 (F5 1 5)) 1 6)) 1 7))) 2 8 (((upR (upR (upR F5 2 5 (F5 1 5)) 2 6 ((upR F5 2 5 (F5 1 5)) 1 6)) 2 7 (((upR (upR F5 2 5 (F5 1 5)) 2 6 ((upR F5 2 5 (F5 1 5)) 1 6)) 1 7))) 1 8))) 2 9 (((upR (upR (upR (upR F5 2 5 (F5 1 5)) 2 6 ((upR F5 2 5 (F5 1 5)) 1 6)) 2 7 (((upR (upR F5 2 5 (F5 1 5)) 2 6 ((upR F5 2 5 (F5 1 5)) 1 6)) 1 7))) 2 8 (((upR (upR (upR F5 2 5 (F5 1 5)) 2 6 ((upR F5 2 5 (F5 1 5)) 1 6)) 2 7 (((upR (upR F5 2 5 (F5 1 5)) 2 6 ((upR F5 2 5 (F5 1 5)) 1 6)) 1 7))) 1 8))) 1 9))) 1 12))) 1 14))), (upC (upC (upC G6 12 11 12) 14 13 12) 16 15 12), P7, N8)
set_option maxHeartbeats 4000000 in
theorem c_St_copyFrom_k (l : Launch) (n : Nat) (E : PE)  (F : Nat → Nat → Int32) (G : Nat → Nat → Int32) (P : Nat → Nat → Option Nat) (N : Nat → Nat)  : CMv l y_St_copyFrom b_St_copyFrom 3 (rL 5) E (fun ad => [.ref (ad 2), .ref (ad 1)]) F G P N (p_St_copyFrom_k n E F G P N) := by
  refine en_cv (by decide) (fun _ => Nat.le_of_ble_eq_true rfl) ?_
  intro z hf p e s m args below meth c dC dI ad cI cZ cW cJ A adK adV ls C hA h hr hlk hl
  have hl : lv_has ls 3 [(0, .ref (ad 2)), (1, .ref (ad 1))] := hl
  unfold p_St_copyFrom_k at hf
  obtain ⟨hx, hb, hml, hown, hT, hK, hTS, hTR, hpS, hi⟩ := id C
  refine lv_aload_n hx hb d_St_copyFrom_0 rfl (lv_at hl 1 rfl) ?_
  refine cg_1_0 hx hb hT hown hK h.1 fl_St_9 d_St_copyFrom_1 ?_
  refine lv_iconst (v := 0) hx hb d_St_copyFrom_4 (by decide) ?_
  refine lv_aload_n hx hb d_St_copyFrom_5 rfl (lv_at hl 0 rfl) ?_
  refine cg_2_0 hx hb hT hown hK h.1 fl_St_9 d_St_copyFrom_6 ?_
  refine lv_iconst (v := 0) hx hb d_St_copyFrom_9 (by decide) ?_
  refine lv_bipush (v := 100) hx hb d_St_copyFrom_10 (by decide) ?_
  refine cy_6_7 hx hb hml hown hT hK h hl.1 (Nat.le_of_ble_eq_true rfl) (Nat.le_of_ble_eq_true rfl) d_St_copyFrom_12 (fun H locs h => ?_)
  refine lv_aload_n hx hb d_St_copyFrom_15 rfl (lv_at hl 0 rfl) ?_
  refine lv_aload_n hx hb d_St_copyFrom_16 rfl (lv_at hl 1 rfl) ?_
  refine cg_1_1 hx hb hT hown hK h.1 fl_St_45 d_St_copyFrom_17 ?_
  refine cp_2_1 hx hb hT hown hK h fl_St_45 d_St_copyFrom_20 (fun H locs h => ?_)
  refine lv_aload_n hx hb d_St_copyFrom_23 rfl (lv_at hl 0 rfl) ?_
  refine lv_aload_n hx hb d_St_copyFrom_24 rfl (lv_at hl 1 rfl) ?_
  refine cg_1_2 hx hb hT hown hK h.1 fl_St_20 d_St_copyFrom_25 ?_
  refine cp_2_2 hx hb hT hown hK h fl_St_20 d_St_copyFrom_28 (fun H locs h => ?_)
  refine lv_aload_n hx hb d_St_copyFrom_31 rfl (lv_at hl 0 rfl) ?_
  refine lv_aload_n hx hb d_St_copyFrom_32 rfl (lv_at hl 1 rfl) ?_
  refine cg_1_3 hx hb hT hown hK h.1 fl_St_49 d_St_copyFrom_33 ?_
  refine cp_2_3 hx hb hT hown hK h fl_St_49 d_St_copyFrom_36 (fun H locs h => ?_)
  refine lv_iconst (v := 0) hx hb d_St_copyFrom_39 (by decide) ?_
  refine lv_istore_n (lv' := [(2, .int 0), (0, .ref (ad 2)), (1, .ref (ad 1))]) hx hb d_St_copyFrom_40 rfl hl (by decide) rfl (fun ls hl => ?_)
  obtain ⟨⟨F5, G6, P7, N8⟩, he, hf⟩ := op_bind hf
  try dsimp only at hf
  refine wl_St_copyFrom_k_41 C hA hr hlk n  n 0 ((upR (upR F 2 1 (F 1 1)) 2 3 ((upR F 2 1 (F 1 1)) 1 3))) (upC G 7 6 100) P (upN N 2 (N 1)) _ _ _ _ he (fun ls hl H locs h => ?_) ls (lv_sub hl [1, 2, 0] rfl) H locs h
  refine lv_aload_n hx hb d_St_copyFrom_65 rfl (lv_at hl 0 rfl) ?_
  refine lv_aload_n hx hb d_St_copyFrom_66 rfl (lv_at hl 1 rfl) ?_
  refine cg_1_5 hx hb hT hown hK h.1 fl_St_52 d_St_copyFrom_67 ?_
  refine cp_2_5 hx hb hT hown hK h fl_St_52 d_St_copyFrom_70 (fun H locs h => ?_)
  refine lv_aload_n hx hb d_St_copyFrom_73 rfl (lv_at hl 0 rfl) ?_
  refine lv_aload_n hx hb d_St_copyFrom_74 rfl (lv_at hl 1 rfl) ?_
  refine cg_1_6 hx hb hT hown hK h.1 fl_St_55 d_St_copyFrom_75 ?_
  refine cp_2_6 hx hb hT hown hK h fl_St_55 d_St_copyFrom_78 (fun H locs h => ?_)
  refine lv_aload_n hx hb d_St_copyFrom_81 rfl (lv_at hl 0 rfl) ?_
  refine lv_aload_n hx hb d_St_copyFrom_82 rfl (lv_at hl 1 rfl) ?_
  refine cg_1_7 hx hb hT hown hK h.1 fl_St_58 d_St_copyFrom_83 ?_
  refine cp_2_7 hx hb hT hown hK h fl_St_58 d_St_copyFrom_86 (fun H locs h => ?_)
  refine lv_aload_n hx hb d_St_copyFrom_89 rfl (lv_at hl 0 rfl) ?_
  refine lv_aload_n hx hb d_St_copyFrom_90 rfl (lv_at hl 1 rfl) ?_
  refine cg_1_8 hx hb hT hown hK h.1 fl_St_61 d_St_copyFrom_91 ?_
  refine cp_2_8 hx hb hT hown hK h fl_St_61 d_St_copyFrom_94 (fun H locs h => ?_)
  refine lv_aload_n hx hb d_St_copyFrom_97 rfl (lv_at hl 0 rfl) ?_
  refine lv_aload_n hx hb d_St_copyFrom_98 rfl (lv_at hl 1 rfl) ?_
  refine cg_1_9 hx hb hT hown hK h.1 fl_St_64 d_St_copyFrom_99 ?_
  refine cp_2_9 hx hb hT hown hK h fl_St_64 d_St_copyFrom_102 (fun H locs h => ?_)
  refine lv_aload_n hx hb d_St_copyFrom_105 rfl (lv_at hl 1 rfl) ?_
  refine cg_1_10 hx hb hT hown hK h.1 fl_St_30 d_St_copyFrom_106 ?_
  refine lv_iconst (v := 0) hx hb d_St_copyFrom_109 (by decide) ?_
  refine lv_aload_n hx hb d_St_copyFrom_110 rfl (lv_at hl 0 rfl) ?_
  refine cg_2_10 hx hb hT hown hK h.1 fl_St_30 d_St_copyFrom_111 ?_
  refine lv_iconst (v := 0) hx hb d_St_copyFrom_114 (by decide) ?_
  refine lv_bipush (v := 12) hx hb d_St_copyFrom_115 (by decide) ?_
  refine cy_11_12 hx hb hml hown hT hK h hl.1 (Nat.le_of_ble_eq_true rfl) (Nat.le_of_ble_eq_true rfl) d_St_copyFrom_117 (fun H locs h => ?_)
  refine lv_aload_n hx hb d_St_copyFrom_120 rfl (lv_at hl 1 rfl) ?_
  refine cg_1_11 hx hb hT hown hK h.1 fl_St_33 d_St_copyFrom_121 ?_
  refine lv_iconst (v := 0) hx hb d_St_copyFrom_124 (by decide) ?_
  refine lv_aload_n hx hb d_St_copyFrom_125 rfl (lv_at hl 0 rfl) ?_
  refine cg_2_11 hx hb hT hown hK h.1 fl_St_33 d_St_copyFrom_126 ?_
  refine lv_iconst (v := 0) hx hb d_St_copyFrom_129 (by decide) ?_
  refine lv_bipush (v := 12) hx hb d_St_copyFrom_130 (by decide) ?_
  refine cy_13_14 hx hb hml hown hT hK h hl.1 (Nat.le_of_ble_eq_true rfl) (Nat.le_of_ble_eq_true rfl) d_St_copyFrom_132 (fun H locs h => ?_)
  refine lv_aload_n hx hb d_St_copyFrom_135 rfl (lv_at hl 0 rfl) ?_
  refine lv_aload_n hx hb d_St_copyFrom_136 rfl (lv_at hl 1 rfl) ?_
  refine cg_1_12 hx hb hT hown hK h.1 fl_St_67 d_St_copyFrom_137 ?_
  refine cp_2_12 hx hb hT hown hK h fl_St_67 d_St_copyFrom_140 (fun H locs h => ?_)
  refine lv_aload_n hx hb d_St_copyFrom_143 rfl (lv_at hl 1 rfl) ?_
  refine cg_1_13 hx hb hT hown hK h.1 fl_St_36 d_St_copyFrom_144 ?_
  refine lv_iconst (v := 0) hx hb d_St_copyFrom_147 (by decide) ?_
  refine lv_aload_n hx hb d_St_copyFrom_148 rfl (lv_at hl 0 rfl) ?_
  refine cg_2_13 hx hb hT hown hK h.1 fl_St_36 d_St_copyFrom_149 ?_
  refine lv_iconst (v := 0) hx hb d_St_copyFrom_152 (by decide) ?_
  refine lv_bipush (v := 12) hx hb d_St_copyFrom_153 (by decide) ?_
  refine cy_15_16 hx hb hml hown hT hK h hl.1 (Nat.le_of_ble_eq_true rfl) (Nat.le_of_ble_eq_true rfl) d_St_copyFrom_155 (fun H locs h => ?_)
  refine lv_aload_n hx hb d_St_copyFrom_158 rfl (lv_at hl 0 rfl) ?_
  refine lv_aload_n hx hb d_St_copyFrom_159 rfl (lv_at hl 1 rfl) ?_
  refine cg_1_14 hx hb hT hown hK h.1 fl_St_70 d_St_copyFrom_160 ?_
  refine cp_2_14 hx hb hT hown hK h fl_St_70 d_St_copyFrom_163 (fun H locs h => ?_)
  exact rt_cv C h hr hlk hf d_St_copyFrom_166
def l_St_copyFrom_ad2_41 (n : Nat) (E : PE)    : Nat → Int32 → (Nat → Nat → Int32) → (Nat → Nat → Int32) → (Nat → Nat → Option Nat) → (Nat → Nat) → Option ((Nat → Nat → Int32) × (Nat → Nat → Int32) × (Nat → Nat → Option Nat) × (Nat → Nat))
  | 0, _, _, _, _, _ => none
  | k + 1, v2, F, G, P, N => (if 6 ≤ v2 then some (F, G, P, N) else if ix v2 6 then (some (P 9 v2.toNatClampNeg)).bind fun q2 => if ix v2 6 then if Option.all (eV E) q2 = true then l_St_copyFrom_ad2_41 n E k (v2 + 1) F G (upP P 8 v2.toNatClampNeg q2) N else none else none else none)
set_option maxHeartbeats 4000000 in
theorem wl_St_copyFrom_ad2_41 {Q : State → Prop}  {p : Program} {l : Launch} {e : Env} {s : State} {m : MethodId} {args : Array Value} {below : List Frame} {meth : Method} {c : Code} {dC : Nat → ClassId} {dI : Nat → Nat → Nat} {ad : Nat → Nat} {cI cZ cW cJ : ClassId} {A : Nat → Prop} {adK adV : Nat → Nat} {E : PE} (C : cC p s m args c b_St_copyFrom 3 "LanternBridge$State" dC dI cI cZ cW cJ A adK adV E) (hA : ∀ q, s.heap.size ≤ q → A q) (hr : meth.sig.returnType = none) (hlk : meth.locks = false) (n : Nat)    : ∀ (k : Nat) (v2 : Int32) (F : Nat → Nat → Int32) (G : Nat → Nat → Int32) (P : Nat → Nat → Option Nat) (N : Nat → Nat) (r0 : Nat → Nat → Int32) (r1 : Nat → Nat → Int32) (r2 : Nat → Nat → Option Nat) (r3 : Nat → Nat), l_St_copyFrom_ad2_41 n E k v2 F G P N = some (r0, r1, r2, r3) → (∀ (ls : Array Slot), lv_has ls 3 [(0, .ref (ad 1)), (1, .ref (ad 2))] → ∀ (H : Heap) (locs : List Loc), cH A s.heap dC dI ad cI cZ cW cJ r0 r1 r2 r3 H locs → W p l e (rL 5) s m args below meth c H locs 0 0 Q (F0 m 65 ls [])) → ∀ (ls : Array Slot), lv_has ls 3 [(0, .ref (ad 1)), (1, .ref (ad 2)), (2, .int v2)] → ∀ (H : Heap) (locs : List Loc), cH A s.heap dC dI ad cI cZ cW cJ F G P N H locs → W p l e (rL 5) s m args below meth c H locs 0 0 Q (F0 m 41 ls []) := by
  obtain ⟨hx, hb, hml, hown, hT, hK, hTS, hTR, hpS, hi⟩ := id C
  intro k
  induction k with
  | zero => intro v2 F G P N r0 r1 r2 r3 hf; exact absurd hf (by unfold l_St_copyFrom_ad2_41; exact fun h9 => by cases h9)
  | succ k ih =>
    intro v2 F G P N r0 r1 r2 r3 hf K ls hl H locs h
    unfold l_St_copyFrom_ad2_41 at hf
    refine lv_iload_n hx hb d_St_copyFrom_41 rfl (lv_at hl 2 rfl) ?_
    refine lv_bipush (v := 6) hx hb d_St_copyFrom_42 (by decide) ?_
    refine lv_icmp_ge (tgt := 65) hx hb d_St_copyFrom_44 (by decide) (fun hc => ?_) (fun hc => ?_)
    · have hf := op_t hc hf
      obtain ⟨rfl, rfl, rfl, rfl⟩ := op_i4 hf
      exact K ls (lv_sub hl [0, 1] rfl) H locs h
    · have hf := op_f hc hf
      refine lv_aload_n hx hb d_St_copyFrom_47 rfl (lv_at hl 0 rfl) ?_
      refine cg_1_4 hx hb hT hown hK h.1 fl_St_26 d_St_copyFrom_48 ?_
      refine lv_iload_n hx hb d_St_copyFrom_51 rfl (lv_at hl 2 rfl) ?_
      refine lv_aload_n hx hb d_St_copyFrom_52 rfl (lv_at hl 1 rfl) ?_
      refine cg_2_4 hx hb hT hown hK h.1 fl_St_26 d_St_copyFrom_53 ?_
      refine lv_iload_n hx hb d_St_copyFrom_56 rfl (lv_at hl 2 rfl) ?_
      obtain ⟨h1, hf⟩ := op_if hf
      obtain ⟨q2, hq2, hf⟩ := op_bind hf
      refine cq_9 hx hb hK h.1 rfl h1 d_St_copyFrom_57 ?_
      rw [op_i1 hq2]
      obtain ⟨h3, hf⟩ := op_if hf
      obtain ⟨h4, hf⟩ := op_if hf
      refine cw_8 (q := q2) hx hb hK h (fun v hv9 => by rw [hv9] at h4; exact w_any hK hi ((cpS hpS h).1 v h4).1 ((cpS hpS h).1 v h4).2.1) rfl h3 d_St_copyFrom_58 (fun H locs h => ?_)
      refine lv_iinc (v := (v2 + 1)) (lv' := [(2, .int (v2 + 1)), (0, .ref (ad 1)), (1, .ref (ad 2))]) hx hb d_St_copyFrom_59 hl (k := 2) rfl rfl (by decide) rfl (fun ls hl => ?_)
      refine lv_goto (tgt := 41) hx hb d_St_copyFrom_62 (by decide) ?_
      exact ih (v2 + 1) F G (upP P 8 v2.toNatClampNeg q2) N _ _ _ _ hf K ls (lv_sub hl [1, 2, 0] rfl) H locs h
def p_St_copyFrom_ad2 (n : Nat) (E : PE)  (F : Nat → Nat → Int32) (G : Nat → Nat → Int32) (P : Nat → Nat → Option Nat) (N : Nat → Nat) : Option (CU) := (l_St_copyFrom_ad2_41 n E n 0 ((upR (upR F 1 1 (F 2 1)) 1 3 ((upR F 1 1 (F 2 1)) 2 3))) (upC G 6 7 100) P (upN N 1 (N 2))).bind fun (F5, G6, P7, N8) => some ((upR (upR (upR (upR (upR (upR (upR F5 1 5 (F5 2 5)) 1 6 ((upR F5 1 5 (F5 2 5)) 2 6)) 1 7 (((upR (upR F5 1 5 (F5 2 5)) 1 6 ((upR F5 1 5 (F5 2 5)) 2 6)) 2 7))) 1 8 (((upR (upR (upR F5 1 5 (F5 2 5)) 1 6 ((upR F5 1 5 (F5 2 5)) 2 6)) 1 7 (((upR (upR F5 1 5 (F5 2 5)) 1 6 ((upR F5 1 5 (F5 2 5)) 2 6)) 2 7))) 2 8))) 1 9 (((upR (upR (upR (upR F5 1 5 (F5 2 5)) 1 6 ((upR F5 1 5 (F5 2 5)) 2 6)) 1 7 (((upR (upR F5 1 5 (F5 2 5)) 1 6 ((upR F5 1 5 (F5 2 5)) 2 6)) 2 7))) 1 8 (((upR (upR (upR F5 1 5 (F5 2 5)) 1 6 ((upR F5 1 5 (F5 2 5)) 2 6)) 1 7 (((upR (upR F5 1 5 (F5 2 5)) 1 6 ((upR F5 1 5 (F5 2 5)) 2 6)) 2 7))) 2 8))) 2 9))) 1 12 (((upR (upR (upR (upR (upR F5 1 5 (F5 2 5)) 1 6 ((upR F5 1 5 (F5 2 5)) 2 6)) 1 7 (((upR (upR F5 1 5 (F5 2 5)) 1 6 ((upR F5 1 5 (F5 2 5)) 2 6)) 2 7))) 1 8 (((upR (upR (upR F5 1 5 (F5 2 5)) 1 6 ((upR F5 1 5 (F5 2 5)) 2 6)) 1 7 (((upR (upR F5 1 5 (F5 2 5)) 1 6 ((upR F5 1 5 (F5 2 5)) 2 6)) 2 7))) 2 8))) 1 9 (((upR (upR (upR (upR F5 1 5 (F5 2 5)) 1 6 ((upR F5 1 5 (F5 2 5)) 2 6)) 1 7 (((upR (upR F5 1 5 (F5 2 5)) 1 6 ((upR F5 1 5 (F5 2 5)) 2 6)) 2 7))) 1 8 (((upR (upR (upR F5 1 5 (F5 2 5)) 1 6 ((upR F5 1 5 (F5 2 5)) 2 6)) 1 7 (((upR (upR F5 1 5 (F5 2 5)) 1 6 ((upR F5 1 5 (F5 2 5)) 2 6)) 2 7))) 2 8))) 2 9))) 2 12))) 1 14 (((upR (upR (upR (upR (upR (upR F5 1 5 (F5 2 5)) 1 6 ((upR F5 1 5 (F5 2 5)) 2 6)) 1 7 (((upR (upR F5 1 5 (F5 2 5)) 1 6 ((upR F5 1 5 (F5 2 5)) 2 6)) 2 7))) 1 8 (((upR (upR (upR F5 1 5 (F5 2 5)) 1 6 ((upR F5 1 5 (F5 2 5)) 2 6)) 1 7 (((upR (upR F5 1 5 (F5 2 5)) 1 6 ((upR F5 1 5 (F5 2 5)) 2 6)) 2 7))) 2 8))) 1 9 (((upR (upR (upR (upR F5 1 5 (F5 2 5)) 1 6 ((upR F5 1 5 (F5 2 5)) 2 6)) 1 7 (((upR (upR F5 1 5 (F5 2 5)) 1 6 ((upR F5 1 5 (F5 2 5)) 2 6)) 2 7))) 1 8 (((upR (upR (upR F5 1 5 (F5 2 5)) 1 6 ((upR F5 1 5 (F5 2 5)) 2 6)) 1 7 (((upR (upR F5 1 5 (F5 2 5)) 1 6 ((upR F5 1 5 (F5 2 5)) 2 6)) 2 7))) 2 8))) 2 9))) 1 12 (((upR (upR (upR (upR (upR F5 1 5 (F5 2 5)) 1 6 ((upR F5 1 5 (F5 2 5)) 2 6)) 1 7 (((upR (upR F5 1 5 (F5 2 5)) 1 6 ((upR F5 1 5 (F5 2 5)) 2 6)) 2 7))) 1 8 (((upR (upR (upR F5 1 5 (F5 2 5)) 1 6 ((upR F5 1 5 (F5 2 5)) 2 6)) 1 7 (((upR (upR F5 1 5 (F5 2 5)) 1 6 ((upR F5 1 5 (F5 2 5)) 2 6)) 2 7))) 2 8))) 1 9 (((upR (upR (upR (upR F5 1 5 (F5 2 5)) 1 6 ((upR F5 1 5 (F5 2 5)) 2 6)) 1 7 (((upR (upR F5 1 5 (F5 2 5)) 1 6 ((upR F5 1 5 (F5 2 5)) 2 6)) 2 7))) 1 8 (((upR (upR (upR F5 1 5 (F5 2 5)) 1 6 ((upR F5 1 5 (F5 2 5)) 2 6)) 1 7 (((upR (upR F5 1 5 (F5 2 5)) 1 6 ((upR F5 1 5 (F5 2 5)) 2 6)) 2 7))) 2 8))) 2 9))) 2 12))) 2 14))), (upC (upC (upC G6 11 12 12) 13 14 12) 15 16 12), P7, N8)
set_option maxHeartbeats 4000000 in
theorem c_St_copyFrom_ad2 (l : Launch) (n : Nat) (E : PE)  (F : Nat → Nat → Int32) (G : Nat → Nat → Int32) (P : Nat → Nat → Option Nat) (N : Nat → Nat)  : CMv l y_St_copyFrom b_St_copyFrom 3 (rL 5) E (fun ad => [.ref (ad 1), .ref (ad 2)]) F G P N (p_St_copyFrom_ad2 n E F G P N) := by
  refine en_cv (by decide) (fun _ => Nat.le_of_ble_eq_true rfl) ?_
  intro z hf p e s m args below meth c dC dI ad cI cZ cW cJ A adK adV ls C hA h hr hlk hl
  have hl : lv_has ls 3 [(0, .ref (ad 1)), (1, .ref (ad 2))] := hl
  unfold p_St_copyFrom_ad2 at hf
  obtain ⟨hx, hb, hml, hown, hT, hK, hTS, hTR, hpS, hi⟩ := id C
  refine lv_aload_n hx hb d_St_copyFrom_0 rfl (lv_at hl 1 rfl) ?_
  refine cg_2_0 hx hb hT hown hK h.1 fl_St_9 d_St_copyFrom_1 ?_
  refine lv_iconst (v := 0) hx hb d_St_copyFrom_4 (by decide) ?_
  refine lv_aload_n hx hb d_St_copyFrom_5 rfl (lv_at hl 0 rfl) ?_
  refine cg_1_0 hx hb hT hown hK h.1 fl_St_9 d_St_copyFrom_6 ?_
  refine lv_iconst (v := 0) hx hb d_St_copyFrom_9 (by decide) ?_
  refine lv_bipush (v := 100) hx hb d_St_copyFrom_10 (by decide) ?_
  refine cy_7_6 hx hb hml hown hT hK h hl.1 (Nat.le_of_ble_eq_true rfl) (Nat.le_of_ble_eq_true rfl) d_St_copyFrom_12 (fun H locs h => ?_)
  refine lv_aload_n hx hb d_St_copyFrom_15 rfl (lv_at hl 0 rfl) ?_
  refine lv_aload_n hx hb d_St_copyFrom_16 rfl (lv_at hl 1 rfl) ?_
  refine cg_2_1 hx hb hT hown hK h.1 fl_St_45 d_St_copyFrom_17 ?_
  refine cp_1_1 hx hb hT hown hK h fl_St_45 d_St_copyFrom_20 (fun H locs h => ?_)
  refine lv_aload_n hx hb d_St_copyFrom_23 rfl (lv_at hl 0 rfl) ?_
  refine lv_aload_n hx hb d_St_copyFrom_24 rfl (lv_at hl 1 rfl) ?_
  refine cg_2_2 hx hb hT hown hK h.1 fl_St_20 d_St_copyFrom_25 ?_
  refine cp_1_2 hx hb hT hown hK h fl_St_20 d_St_copyFrom_28 (fun H locs h => ?_)
  refine lv_aload_n hx hb d_St_copyFrom_31 rfl (lv_at hl 0 rfl) ?_
  refine lv_aload_n hx hb d_St_copyFrom_32 rfl (lv_at hl 1 rfl) ?_
  refine cg_2_3 hx hb hT hown hK h.1 fl_St_49 d_St_copyFrom_33 ?_
  refine cp_1_3 hx hb hT hown hK h fl_St_49 d_St_copyFrom_36 (fun H locs h => ?_)
  refine lv_iconst (v := 0) hx hb d_St_copyFrom_39 (by decide) ?_
  refine lv_istore_n (lv' := [(2, .int 0), (0, .ref (ad 1)), (1, .ref (ad 2))]) hx hb d_St_copyFrom_40 rfl hl (by decide) rfl (fun ls hl => ?_)
  obtain ⟨⟨F5, G6, P7, N8⟩, he, hf⟩ := op_bind hf
  try dsimp only at hf
  refine wl_St_copyFrom_ad2_41 C hA hr hlk n  n 0 ((upR (upR F 1 1 (F 2 1)) 1 3 ((upR F 1 1 (F 2 1)) 2 3))) (upC G 6 7 100) P (upN N 1 (N 2)) _ _ _ _ he (fun ls hl H locs h => ?_) ls (lv_sub hl [1, 2, 0] rfl) H locs h
  refine lv_aload_n hx hb d_St_copyFrom_65 rfl (lv_at hl 0 rfl) ?_
  refine lv_aload_n hx hb d_St_copyFrom_66 rfl (lv_at hl 1 rfl) ?_
  refine cg_2_5 hx hb hT hown hK h.1 fl_St_52 d_St_copyFrom_67 ?_
  refine cp_1_5 hx hb hT hown hK h fl_St_52 d_St_copyFrom_70 (fun H locs h => ?_)
  refine lv_aload_n hx hb d_St_copyFrom_73 rfl (lv_at hl 0 rfl) ?_
  refine lv_aload_n hx hb d_St_copyFrom_74 rfl (lv_at hl 1 rfl) ?_
  refine cg_2_6 hx hb hT hown hK h.1 fl_St_55 d_St_copyFrom_75 ?_
  refine cp_1_6 hx hb hT hown hK h fl_St_55 d_St_copyFrom_78 (fun H locs h => ?_)
  refine lv_aload_n hx hb d_St_copyFrom_81 rfl (lv_at hl 0 rfl) ?_
  refine lv_aload_n hx hb d_St_copyFrom_82 rfl (lv_at hl 1 rfl) ?_
  refine cg_2_7 hx hb hT hown hK h.1 fl_St_58 d_St_copyFrom_83 ?_
  refine cp_1_7 hx hb hT hown hK h fl_St_58 d_St_copyFrom_86 (fun H locs h => ?_)
  refine lv_aload_n hx hb d_St_copyFrom_89 rfl (lv_at hl 0 rfl) ?_
  refine lv_aload_n hx hb d_St_copyFrom_90 rfl (lv_at hl 1 rfl) ?_
  refine cg_2_8 hx hb hT hown hK h.1 fl_St_61 d_St_copyFrom_91 ?_
  refine cp_1_8 hx hb hT hown hK h fl_St_61 d_St_copyFrom_94 (fun H locs h => ?_)
  refine lv_aload_n hx hb d_St_copyFrom_97 rfl (lv_at hl 0 rfl) ?_
  refine lv_aload_n hx hb d_St_copyFrom_98 rfl (lv_at hl 1 rfl) ?_
  refine cg_2_9 hx hb hT hown hK h.1 fl_St_64 d_St_copyFrom_99 ?_
  refine cp_1_9 hx hb hT hown hK h fl_St_64 d_St_copyFrom_102 (fun H locs h => ?_)
  refine lv_aload_n hx hb d_St_copyFrom_105 rfl (lv_at hl 1 rfl) ?_
  refine cg_2_10 hx hb hT hown hK h.1 fl_St_30 d_St_copyFrom_106 ?_
  refine lv_iconst (v := 0) hx hb d_St_copyFrom_109 (by decide) ?_
  refine lv_aload_n hx hb d_St_copyFrom_110 rfl (lv_at hl 0 rfl) ?_
  refine cg_1_10 hx hb hT hown hK h.1 fl_St_30 d_St_copyFrom_111 ?_
  refine lv_iconst (v := 0) hx hb d_St_copyFrom_114 (by decide) ?_
  refine lv_bipush (v := 12) hx hb d_St_copyFrom_115 (by decide) ?_
  refine cy_12_11 hx hb hml hown hT hK h hl.1 (Nat.le_of_ble_eq_true rfl) (Nat.le_of_ble_eq_true rfl) d_St_copyFrom_117 (fun H locs h => ?_)
  refine lv_aload_n hx hb d_St_copyFrom_120 rfl (lv_at hl 1 rfl) ?_
  refine cg_2_11 hx hb hT hown hK h.1 fl_St_33 d_St_copyFrom_121 ?_
  refine lv_iconst (v := 0) hx hb d_St_copyFrom_124 (by decide) ?_
  refine lv_aload_n hx hb d_St_copyFrom_125 rfl (lv_at hl 0 rfl) ?_
  refine cg_1_11 hx hb hT hown hK h.1 fl_St_33 d_St_copyFrom_126 ?_
  refine lv_iconst (v := 0) hx hb d_St_copyFrom_129 (by decide) ?_
  refine lv_bipush (v := 12) hx hb d_St_copyFrom_130 (by decide) ?_
  refine cy_14_13 hx hb hml hown hT hK h hl.1 (Nat.le_of_ble_eq_true rfl) (Nat.le_of_ble_eq_true rfl) d_St_copyFrom_132 (fun H locs h => ?_)
  refine lv_aload_n hx hb d_St_copyFrom_135 rfl (lv_at hl 0 rfl) ?_
  refine lv_aload_n hx hb d_St_copyFrom_136 rfl (lv_at hl 1 rfl) ?_
  refine cg_2_12 hx hb hT hown hK h.1 fl_St_67 d_St_copyFrom_137 ?_
  refine cp_1_12 hx hb hT hown hK h fl_St_67 d_St_copyFrom_140 (fun H locs h => ?_)
  refine lv_aload_n hx hb d_St_copyFrom_143 rfl (lv_at hl 1 rfl) ?_
  refine cg_2_13 hx hb hT hown hK h.1 fl_St_36 d_St_copyFrom_144 ?_
  refine lv_iconst (v := 0) hx hb d_St_copyFrom_147 (by decide) ?_
  refine lv_aload_n hx hb d_St_copyFrom_148 rfl (lv_at hl 0 rfl) ?_
  refine cg_1_13 hx hb hT hown hK h.1 fl_St_36 d_St_copyFrom_149 ?_
  refine lv_iconst (v := 0) hx hb d_St_copyFrom_152 (by decide) ?_
  refine lv_bipush (v := 12) hx hb d_St_copyFrom_153 (by decide) ?_
  refine cy_16_15 hx hb hml hown hT hK h hl.1 (Nat.le_of_ble_eq_true rfl) (Nat.le_of_ble_eq_true rfl) d_St_copyFrom_155 (fun H locs h => ?_)
  refine lv_aload_n hx hb d_St_copyFrom_158 rfl (lv_at hl 0 rfl) ?_
  refine lv_aload_n hx hb d_St_copyFrom_159 rfl (lv_at hl 1 rfl) ?_
  refine cg_2_14 hx hb hT hown hK h.1 fl_St_70 d_St_copyFrom_160 ?_
  refine cp_1_14 hx hb hT hown hK h fl_St_70 d_St_copyFrom_163 (fun H locs h => ?_)
  exact rt_cv C h hr hlk hf d_St_copyFrom_166
theorem hd_Go_everybody : y_Go_everybody.cls ≠ "java/lang/invoke/MethodHandle" ∧ y_Go_everybody.cls ≠ "java/lang/invoke/VarHandle" ∧ (parseMethodDescriptor y_Go_everybody.desc).map (fun d => d.parameters.length) = some 0 := by decide +kernel
theorem d_Go_everybody_0 : decode b_Go_everybody 0 = .ok (.aload_n 0, 1) := by decide +kernel
theorem d_Go_everybody_1 : decode b_Go_everybody 1 = .ok (.getfield 50, 3) := by decide +kernel
theorem d_Go_everybody_4 : decode b_Go_everybody 4 = .ok (.ireturn, 1) := by decide +kernel
def p_Go_everybody (n : Nat) (E : PE) (F : Nat → Nat → Int32) (G : Nat → Nat → Int32) (P : Nat → Nat → Option Nat) (N : Nat → Nat)   : Option (Int32) := some (F 3 2)
set_option maxHeartbeats 4000000 in
theorem c_Go_everybody (l : Launch) (n : Nat) (E : PE) (F : Nat → Nat → Int32) (G : Nat → Nat → Int32) (P : Nat → Nat → Option Nat) (N : Nat → Nat) (dC : Nat → ClassId) (dI : Nat → Nat → Nat) (ad : Nat → Nat) (cI cZ cW cJ : ClassId)    : ROi l y_Go_everybody b_Go_everybody 1 (.int) (rL 5) (cB dC dI ad cI cZ cW cJ E F G P N) [.ref (ad 3)] (p_Go_everybody n E F G P N ) := by
  refine en_roi (by decide) (Nat.le_of_ble_eq_true rfl) ?_
  intro z hf p e s m args below meth c ls hx hb hml hown hT hr hlk hB hl
  obtain ⟨hK, hP, hp, hi⟩ := hB
  have hl : lv_has ls 1 [(0, .ref (ad 3))] := hl
  unfold p_Go_everybody at hf
  refine lv_aload_n hx hb d_Go_everybody_0 rfl (lv_at hl 0 rfl) ?_
  refine cg_3_2 hx hb hT hown hK hP fl_Go_50 d_Go_everybody_1 ?_
  obtain rfl := op_i1 hf
  exact rt_si hx hb hr hlk rfl d_Go_everybody_4
theorem hd_Go_minutesOf : y_Go_minutesOf.cls ≠ "java/lang/invoke/MethodHandle" ∧ y_Go_minutesOf.cls ≠ "java/lang/invoke/VarHandle" ∧ (parseMethodDescriptor y_Go_minutesOf.desc).map (fun d => d.parameters.length) = some 2 := by decide +kernel
theorem d_Go_minutesOf_0 : decode b_Go_minutesOf 0 = .ok (.aload_n 0, 1) := by decide +kernel
theorem d_Go_minutesOf_1 : decode b_Go_minutesOf 1 = .ok (.getfield 32, 3) := by decide +kernel
theorem d_Go_minutesOf_4 : decode b_Go_minutesOf 4 = .ok (.iload_n 2, 1) := by decide +kernel
theorem d_Go_minutesOf_5 : decode b_Go_minutesOf 5 = .ok (.iconst 1, 1) := by decide +kernel
theorem d_Go_minutesOf_6 : decode b_Go_minutesOf 6 = .ok (.iand, 1) := by decide +kernel
theorem d_Go_minutesOf_7 : decode b_Go_minutesOf 7 = .ok (.aaload, 1) := by decide +kernel
theorem d_Go_minutesOf_8 : decode b_Go_minutesOf 8 = .ok (.iload_n 1, 1) := by decide +kernel
theorem d_Go_minutesOf_9 : decode b_Go_minutesOf 9 = .ok (.bipush 63, 2) := by decide +kernel
theorem d_Go_minutesOf_11 : decode b_Go_minutesOf 11 = .ok (.iand, 1) := by decide +kernel
theorem d_Go_minutesOf_12 : decode b_Go_minutesOf 12 = .ok (.iaload, 1) := by decide +kernel
theorem d_Go_minutesOf_13 : decode b_Go_minutesOf 13 = .ok (.ireturn, 1) := by decide +kernel
def p_Go_minutesOf (n : Nat) (E : PE) (F : Nat → Nat → Int32) (G : Nat → Nat → Int32) (P : Nat → Nat → Option Nat) (N : Nat → Nat) (v1 : Int32) (v2 : Int32)  : Option (Int32) := if ix (v2 &&& 1) 2 then if ix (v1 &&& 63) 64 then some ((G (19 + (v2 &&& 1).toNatClampNeg) (v1 &&& 63).toNatClampNeg)) else none else none
set_option maxHeartbeats 4000000 in
theorem c_Go_minutesOf (l : Launch) (n : Nat) (E : PE) (F : Nat → Nat → Int32) (G : Nat → Nat → Int32) (P : Nat → Nat → Option Nat) (N : Nat → Nat) (dC : Nat → ClassId) (dI : Nat → Nat → Nat) (ad : Nat → Nat) (cI cZ cW cJ : ClassId) (v1 : Int32) (v2 : Int32)   : ROi l y_Go_minutesOf b_Go_minutesOf 3 (.int) (rL 5) (cB dC dI ad cI cZ cW cJ E F G P N) [.ref (ad 3), .int v1, .int v2] (p_Go_minutesOf n E F G P N v1 v2 ) := by
  refine en_roi (by decide) (Nat.le_of_ble_eq_true rfl) ?_
  intro z hf p e s m args below meth c ls hx hb hml hown hT hr hlk hB hl
  obtain ⟨hK, hP, hp, hi⟩ := hB
  have hl : lv_has ls 3 [(0, .ref (ad 3)), (1, .int v1), (2, .int v2)] := hl
  unfold p_Go_minutesOf at hf
  refine lv_aload_n hx hb d_Go_minutesOf_0 rfl (lv_at hl 0 rfl) ?_
  refine cg_3_6 hx hb hT hown hK hP fl_Go_32 d_Go_minutesOf_1 ?_
  refine lv_iload_n hx hb d_Go_minutesOf_4 rfl (lv_at hl 2 rfl) ?_
  refine lv_iconst (v := 1) hx hb d_Go_minutesOf_5 (by decide) ?_
  refine lv_iand hx hb d_Go_minutesOf_6 ?_
  obtain ⟨h1, hf⟩ := op_if hf
  refine co_18 hx hb hK hP rfl h1 d_Go_minutesOf_7 ?_
  refine lv_iload_n hx hb d_Go_minutesOf_8 rfl (lv_at hl 1 rfl) ?_
  refine lv_bipush (v := 63) hx hb d_Go_minutesOf_9 (by decide) ?_
  refine lv_iand hx hb d_Go_minutesOf_11 ?_
  obtain ⟨h2, hf⟩ := op_if hf
  refine cam_19 hx hb hK hP (Nat.not_le.mp fun q => h1 (Or.inr q)) rfl h2 d_Go_minutesOf_12 ?_
  obtain rfl := op_i1 hf
  exact rt_si hx hb hr hlk rfl d_Go_minutesOf_13
theorem hd_Go_canBe : y_Go_canBe.cls ≠ "java/lang/invoke/MethodHandle" ∧ y_Go_canBe.cls ≠ "java/lang/invoke/VarHandle" ∧ (parseMethodDescriptor y_Go_canBe.desc).map (fun d => d.parameters.length) = some 2 := by decide +kernel
theorem d_Go_canBe_0 : decode b_Go_canBe 0 = .ok (.aload_n 0, 1) := by decide +kernel
theorem d_Go_canBe_1 : decode b_Go_canBe 1 = .ok (.getfield 35, 3) := by decide +kernel
theorem d_Go_canBe_4 : decode b_Go_canBe 4 = .ok (.iload_n 2, 1) := by decide +kernel
theorem d_Go_canBe_5 : decode b_Go_canBe 5 = .ok (.iconst 1, 1) := by decide +kernel
theorem d_Go_canBe_6 : decode b_Go_canBe 6 = .ok (.iand, 1) := by decide +kernel
theorem d_Go_canBe_7 : decode b_Go_canBe 7 = .ok (.aaload, 1) := by decide +kernel
theorem d_Go_canBe_8 : decode b_Go_canBe 8 = .ok (.iload_n 1, 1) := by decide +kernel
theorem d_Go_canBe_9 : decode b_Go_canBe 9 = .ok (.bipush 63, 2) := by decide +kernel
theorem d_Go_canBe_11 : decode b_Go_canBe 11 = .ok (.iand, 1) := by decide +kernel
theorem d_Go_canBe_12 : decode b_Go_canBe 12 = .ok (.iaload, 1) := by decide +kernel
theorem d_Go_canBe_13 : decode b_Go_canBe 13 = .ok (.iconst 1, 1) := by decide +kernel
theorem d_Go_canBe_14 : decode b_Go_canBe 14 = .ok (.if_icmp .ne 7, 3) := by decide +kernel
theorem d_Go_canBe_17 : decode b_Go_canBe 17 = .ok (.iconst 1, 1) := by decide +kernel
theorem d_Go_canBe_18 : decode b_Go_canBe 18 = .ok (.goto 4, 3) := by decide +kernel
theorem d_Go_canBe_21 : decode b_Go_canBe 21 = .ok (.iconst 0, 1) := by decide +kernel
theorem d_Go_canBe_22 : decode b_Go_canBe 22 = .ok (.ireturn, 1) := by decide +kernel
def p_Go_canBe (n : Nat) (E : PE) (F : Nat → Nat → Int32) (G : Nat → Nat → Int32) (P : Nat → Nat → Option Nat) (N : Nat → Nat) (v1 : Int32) (v2 : Int32)  : Option (Int32) := if ix (v2 &&& 1) 2 then if ix (v1 &&& 63) 64 then (if (G (22 + (v2 &&& 1).toNatClampNeg) (v1 &&& 63).toNatClampNeg) = 1 then some 1 else some 0 : Option (Int32)).bind fun x4 => if isZ x4 then some x4 else none else none else none
set_option maxHeartbeats 4000000 in
theorem c_Go_canBe (l : Launch) (n : Nat) (E : PE) (F : Nat → Nat → Int32) (G : Nat → Nat → Int32) (P : Nat → Nat → Option Nat) (N : Nat → Nat) (dC : Nat → ClassId) (dI : Nat → Nat → Nat) (ad : Nat → Nat) (cI cZ cW cJ : ClassId) (v1 : Int32) (v2 : Int32)   : ROi l y_Go_canBe b_Go_canBe 3 (.boolean) (rL 5) (cB dC dI ad cI cZ cW cJ E F G P N) [.ref (ad 3), .int v1, .int v2] (p_Go_canBe n E F G P N v1 v2 ) := by
  refine en_roi (by decide) (Nat.le_of_ble_eq_true rfl) ?_
  intro z hf p e s m args below meth c ls hx hb hml hown hT hr hlk hB hl
  obtain ⟨hK, hP, hp, hi⟩ := hB
  have hl : lv_has ls 3 [(0, .ref (ad 3)), (1, .int v1), (2, .int v2)] := hl
  unfold p_Go_canBe at hf
  refine lv_aload_n hx hb d_Go_canBe_0 rfl (lv_at hl 0 rfl) ?_
  refine cg_3_7 hx hb hT hown hK hP fl_Go_35 d_Go_canBe_1 ?_
  refine lv_iload_n hx hb d_Go_canBe_4 rfl (lv_at hl 2 rfl) ?_
  refine lv_iconst (v := 1) hx hb d_Go_canBe_5 (by decide) ?_
  refine lv_iand hx hb d_Go_canBe_6 ?_
  obtain ⟨h1, hf⟩ := op_if hf
  refine co_21 hx hb hK hP rfl h1 d_Go_canBe_7 ?_
  refine lv_iload_n hx hb d_Go_canBe_8 rfl (lv_at hl 1 rfl) ?_
  refine lv_bipush (v := 63) hx hb d_Go_canBe_9 (by decide) ?_
  refine lv_iand hx hb d_Go_canBe_11 ?_
  obtain ⟨h2, hf⟩ := op_if hf
  refine cam_22 hx hb hK hP (Nat.not_le.mp fun q => h1 (Or.inr q)) rfl h2 d_Go_canBe_12 ?_
  refine lv_iconst (v := 1) hx hb d_Go_canBe_13 (by decide) ?_
  obtain ⟨x4, he, hf⟩ := op_bind hf
  have K3 : ∀ (ls : Array Slot), lv_has ls 3 [] → W p l e (rL 5) s m args below meth c s.heap [] 0 0 (MQ below (fun _ st oc t => oc = .returned (some (.int z)) ∧ t.heap = st.heap) args s 0 0 (fun _ => False)) (F0 m 22 ls [.int x4]) := by
    intro ls hl
    obtain ⟨h5, hf⟩ := op_if hf
    obtain rfl := op_i1 hf
    exact rt_si hx hb hr hlk (isZ_nar h5) d_Go_canBe_22
  have hf := he
  refine lv_icmp_ne (tgt := 21) hx hb d_Go_canBe_14 (by decide) (fun hc => ?_) (fun hc => ?_)
  · have hf := op_f hc hf
    refine lv_iconst (v := 0) hx hb d_Go_canBe_21 (by decide) ?_
    obtain rfl := op_i1 hf
    exact K3 ls (lv_sub hl [] rfl)
  · have hf := op_t hc hf
    refine lv_iconst (v := 1) hx hb d_Go_canBe_17 (by decide) ?_
    refine lv_goto (tgt := 22) hx hb d_Go_canBe_18 (by decide) ?_
    obtain rfl := op_i1 hf
    exact K3 ls (lv_sub hl [] rfl)
theorem hd_Go_isBorne : y_Go_isBorne.cls ≠ "java/lang/invoke/MethodHandle" ∧ y_Go_isBorne.cls ≠ "java/lang/invoke/VarHandle" ∧ (parseMethodDescriptor y_Go_isBorne.desc).map (fun d => d.parameters.length) = some 1 := by decide +kernel
theorem d_Go_isBorne_0 : decode b_Go_isBorne 0 = .ok (.iconst 0, 1) := by decide +kernel
theorem d_Go_isBorne_1 : decode b_Go_isBorne 1 = .ok (.istore_n 2, 1) := by decide +kernel
theorem d_Go_isBorne_2 : decode b_Go_isBorne 2 = .ok (.iconst 0, 1) := by decide +kernel
theorem d_Go_isBorne_3 : decode b_Go_isBorne 3 = .ok (.istore_n 3, 1) := by decide +kernel
theorem d_Go_isBorne_4 : decode b_Go_isBorne 4 = .ok (.iload_n 3, 1) := by decide +kernel
theorem d_Go_isBorne_5 : decode b_Go_isBorne 5 = .ok (.aload_n 0, 1) := by decide +kernel
theorem d_Go_isBorne_6 : decode b_Go_isBorne 6 = .ok (.getfield 45, 3) := by decide +kernel
theorem d_Go_isBorne_9 : decode b_Go_isBorne 9 = .ok (.if_icmp .ge 39, 3) := by decide +kernel
theorem d_Go_isBorne_12 : decode b_Go_isBorne 12 = .ok (.aload_n 0, 1) := by decide +kernel
theorem d_Go_isBorne_13 : decode b_Go_isBorne 13 = .ok (.getfield 11, 3) := by decide +kernel
theorem d_Go_isBorne_16 : decode b_Go_isBorne 16 = .ok (.iload_n 3, 1) := by decide +kernel
theorem d_Go_isBorne_17 : decode b_Go_isBorne 17 = .ok (.aaload, 1) := by decide +kernel
theorem d_Go_isBorne_18 : decode b_Go_isBorne 18 = .ok (.astore 4, 2) := by decide +kernel
theorem d_Go_isBorne_20 : decode b_Go_isBorne 20 = .ok (.aload 4, 2) := by decide +kernel
theorem d_Go_isBorne_22 : decode b_Go_isBorne 22 = .ok (.ifnull 20, 3) := by decide +kernel
theorem d_Go_isBorne_25 : decode b_Go_isBorne 25 = .ok (.iload_n 1, 1) := by decide +kernel
theorem d_Go_isBorne_26 : decode b_Go_isBorne 26 = .ok (.iload_n 3, 1) := by decide +kernel
theorem d_Go_isBorne_27 : decode b_Go_isBorne 27 = .ok (.ishr, 1) := by decide +kernel
theorem d_Go_isBorne_28 : decode b_Go_isBorne 28 = .ok (.iconst 1, 1) := by decide +kernel
theorem d_Go_isBorne_29 : decode b_Go_isBorne 29 = .ok (.iand, 1) := by decide +kernel
theorem d_Go_isBorne_30 : decode b_Go_isBorne 30 = .ok (.iconst 1, 1) := by decide +kernel
theorem d_Go_isBorne_31 : decode b_Go_isBorne 31 = .ok (.if_icmp .ne 11, 3) := by decide +kernel
theorem d_Go_isBorne_34 : decode b_Go_isBorne 34 = .ok (.iload_n 2, 1) := by decide +kernel
theorem d_Go_isBorne_35 : decode b_Go_isBorne 35 = .ok (.aload 4, 2) := by decide +kernel
theorem d_Go_isBorne_37 : decode b_Go_isBorne 37 = .ok (.getfield 86, 3) := by decide +kernel
theorem d_Go_isBorne_40 : decode b_Go_isBorne 40 = .ok (.iadd, 1) := by decide +kernel
theorem d_Go_isBorne_41 : decode b_Go_isBorne 41 = .ok (.istore_n 2, 1) := by decide +kernel
theorem d_Go_isBorne_42 : decode b_Go_isBorne 42 = .ok (.iinc 3 1, 3) := by decide +kernel
theorem d_Go_isBorne_45 : decode b_Go_isBorne 45 = .ok (.goto (-41), 3) := by decide +kernel
theorem d_Go_isBorne_48 : decode b_Go_isBorne 48 = .ok (.iload_n 1, 1) := by decide +kernel
theorem d_Go_isBorne_49 : decode b_Go_isBorne 49 = .ok (.invokestatic 89, 3) := by decide +kernel
theorem d_Go_isBorne_52 : decode b_Go_isBorne 52 = .ok (.aload_n 0, 1) := by decide +kernel
theorem d_Go_isBorne_53 : decode b_Go_isBorne 53 = .ok (.getfield 22, 3) := by decide +kernel
theorem d_Go_isBorne_56 : decode b_Go_isBorne 56 = .ok (.getfield 95, 3) := by decide +kernel
theorem d_Go_isBorne_59 : decode b_Go_isBorne 59 = .ok (.if_icmp .gt 18, 3) := by decide +kernel
theorem d_Go_isBorne_62 : decode b_Go_isBorne 62 = .ok (.iload_n 2, 1) := by decide +kernel
theorem d_Go_isBorne_63 : decode b_Go_isBorne 63 = .ok (.aload_n 0, 1) := by decide +kernel
theorem d_Go_isBorne_64 : decode b_Go_isBorne 64 = .ok (.getfield 22, 3) := by decide +kernel
theorem d_Go_isBorne_67 : decode b_Go_isBorne 67 = .ok (.getfield 98, 3) := by decide +kernel
theorem d_Go_isBorne_70 : decode b_Go_isBorne 70 = .ok (.if_icmp .gt 7, 3) := by decide +kernel
theorem d_Go_isBorne_73 : decode b_Go_isBorne 73 = .ok (.iconst 1, 1) := by decide +kernel
theorem d_Go_isBorne_74 : decode b_Go_isBorne 74 = .ok (.goto 4, 3) := by decide +kernel
theorem d_Go_isBorne_77 : decode b_Go_isBorne 77 = .ok (.iconst 0, 1) := by decide +kernel
theorem d_Go_isBorne_78 : decode b_Go_isBorne 78 = .ok (.ireturn, 1) := by decide +kernel
def l_Go_isBorne_4 (n : Nat) (E : PE) (F : Nat → Nat → Int32) (G : Nat → Nat → Int32) (P : Nat → Nat → Option Nat) (N : Nat → Nat)  (v1 : Int32)  : Nat → Int32 → Int32 → Option (Int32)
  | 0, _, _ => none
  | k + 1, v2, v3 => (if (F 3 1) ≤ v3 then some v2 else if ix v3 6 then (some (P 10 v3.toNatClampNeg)).bind fun q2 => (Option.elim q2 (l_Go_isBorne_4 n E F G P N v1 k v2 (v3 + 1)) (fun a3 => (if ((v1 >>> (v3 &&& 31)) &&& 1) = 1 then if eV E a3 = true then some (v2 + (eD E a3 4)) else none else some v2 : Option (Int32)).bind fun x5 => l_Go_isBorne_4 n E F G P N v1 k x5 (v3 + 1))) else none)
set_option maxHeartbeats 4000000 in
theorem wl_Go_isBorne_4 {Q : State → Prop}  {p : Program} {l : Launch} {e : Env} {s : State} {m : MethodId} {args : Array Value} {below : List Frame} {meth : Method} {c : Code} (hx : p.tables.exec = Jvm.exec) (hb : c.code = b_Go_isBorne) (hml : c.maxLocals = 5) (hown : s.vm.findClass "LanternBridge$Goings" = some m.cls) (hT : ∀ w ∈ WT, w.before args s = true) (hr : meth.sig.returnType = some .boolean) (hlk : meth.locks = false) {dC : Nat → ClassId} {dI : Nat → Nat → Nat} {ad : Nat → Nat} {cI cZ cW cJ : ClassId} {E : PE} {F G : Nat → Nat → Int32} {P : Nat → Nat → Option Nat} {N : Nat → Nat} (hK : cK dC dI cI cZ cW cJ s) (hP : va_P (dC, dI) CL (cX ad cI cZ cW cJ F G P N) s.heap) (hp : pS dC dI cI E (fun _ => False) s.heap) (hi : iS s) (n : Nat)  (v1 : Int32)  : ∀ (k : Nat) (v2 : Int32) (v3 : Int32) (r0 : Int32), l_Go_isBorne_4 n E F G P N v1 k v2 v3 = some r0 → (∀ (ls : Array Slot), lv_has ls 5 [(0, .ref (ad 3)), (1, .int v1), (2, .int r0)] → W p l e (rL 5) s m args below meth c s.heap [] 0 0 Q (F0 m 48 ls [])) → ∀ (ls : Array Slot), lv_has ls 5 [(0, .ref (ad 3)), (1, .int v1), (2, .int v2), (3, .int v3)] → W p l e (rL 5) s m args below meth c s.heap [] 0 0 Q (F0 m 4 ls []) := by
  intro k
  induction k with
  | zero => intro v2 v3 r0 hf; exact absurd hf (by unfold l_Go_isBorne_4; exact fun h9 => by cases h9)
  | succ k ih =>
    intro v2 v3 r0 hf K ls hl
    unfold l_Go_isBorne_4 at hf
    refine lv_iload_n hx hb d_Go_isBorne_4 rfl (lv_at hl 3 rfl) ?_
    refine lv_aload_n hx hb d_Go_isBorne_5 rfl (lv_at hl 0 rfl) ?_
    refine cg_3_1 hx hb hT hown hK hP fl_Go_45 d_Go_isBorne_6 ?_
    refine lv_icmp_ge (tgt := 48) hx hb d_Go_isBorne_9 (by decide) (fun hc => ?_) (fun hc => ?_)
    · have hf := op_t hc hf
      obtain rfl := op_i1 hf
      exact K ls (lv_sub hl [0, 1, 2] rfl)
    · have hf := op_f hc hf
      refine lv_aload_n hx hb d_Go_isBorne_12 rfl (lv_at hl 0 rfl) ?_
      refine cg_3_0 hx hb hT hown hK hP fl_Go_11 d_Go_isBorne_13 ?_
      refine lv_iload_n hx hb d_Go_isBorne_16 rfl (lv_at hl 3 rfl) ?_
      obtain ⟨h1, hf⟩ := op_if hf
      obtain ⟨q2, hq2, hf⟩ := op_bind hf
      refine cq_10 hx hb hK hP rfl h1 d_Go_isBorne_17 ?_
      rw [op_i1 hq2]
      cases q2 with
      | none =>
        have hf := op_en hf
        refine lv_astoreN (lv' := [(4, .null), (0, .ref (ad 3)), (1, .int v1), (2, .int v2), (3, .int v3)]) hx hb d_Go_isBorne_18 hl (by decide) rfl (fun ls hl => ?_)
        refine lv_aloadN hx hb d_Go_isBorne_20 (lv_at hl 0 rfl) ?_
        refine lv_ifnullN (tgt := 42) hx hb d_Go_isBorne_22 (by decide) ?_
        refine lv_iinc (v := (v3 + 1)) (lv' := [(3, .int (v3 + 1)), (4, .null), (0, .ref (ad 3)), (1, .int v1), (2, .int v2)]) hx hb d_Go_isBorne_42 hl (k := 4) rfl rfl (by decide) rfl (fun ls hl => ?_)
        refine lv_goto (tgt := 4) hx hb d_Go_isBorne_45 (by decide) ?_
        exact ih v2 (v3 + 1) _ hf K ls (lv_sub hl [2, 3, 4, 0] rfl)
      | some a3 =>
        have hf := op_es hf
        refine lv_astore (lv' := [(4, .ref a3), (0, .ref (ad 3)), (1, .int v1), (2, .int v2), (3, .int v3)]) hx hb d_Go_isBorne_18 hl (by decide) rfl (fun ls hl => ?_)
        refine lv_aload hx hb d_Go_isBorne_20 (lv_at hl 0 rfl) ?_
        refine lv_ifnull hx hb d_Go_isBorne_22 ?_
        refine lv_iload_n hx hb d_Go_isBorne_25 rfl (lv_at hl 2 rfl) ?_
        refine lv_iload_n hx hb d_Go_isBorne_26 rfl (lv_at hl 4 rfl) ?_
        refine lv_ishr hx hb d_Go_isBorne_27 ?_
        refine lv_iconst (v := 1) hx hb d_Go_isBorne_28 (by decide) ?_
        refine lv_iand hx hb d_Go_isBorne_29 ?_
        refine lv_iconst (v := 1) hx hb d_Go_isBorne_30 (by decide) ?_
        obtain ⟨x5, he, hf⟩ := op_bind hf
        have K4 : ∀ (ls : Array Slot), lv_has ls 5 [(0, .ref (ad 3)), (1, .int v1), (2, .int x5), (3, .int v3)] → W p l e (rL 5) s m args below meth c s.heap [] 0 0 Q (F0 m 42 ls []) := by
          intro ls hl
          refine lv_iinc (v := (v3 + 1)) (lv' := [(3, .int (v3 + 1)), (0, .ref (ad 3)), (1, .int v1), (2, .int x5)]) hx hb d_Go_isBorne_42 hl (k := 3) rfl rfl (by decide) rfl (fun ls hl => ?_)
          refine lv_goto (tgt := 4) hx hb d_Go_isBorne_45 (by decide) ?_
          exact ih x5 (v3 + 1) _ hf K ls (lv_sub hl [1, 2, 3, 0] rfl)
        have hf := he
        refine lv_icmp_ne (tgt := 42) hx hb d_Go_isBorne_31 (by decide) (fun hc => ?_) (fun hc => ?_)
        · have hf := op_f hc hf
          obtain rfl := op_i1 hf
          exact K4 ls (lv_sub hl [1, 2, 3, 4] rfl)
        · have hf := op_t hc hf
          refine lv_iload_n hx hb d_Go_isBorne_34 rfl (lv_at hl 3 rfl) ?_
          refine lv_aload hx hb d_Go_isBorne_35 (lv_at hl 0 rfl) ?_
          obtain ⟨h6, hf⟩ := op_if hf
          refine wg_4 hx hb hT hown hK (hp.1 a3 h6).1 (hp.1 a3 h6).2.1 fl_Go_86 (fun _ h9 => h9) d_Go_isBorne_37 ?_
          refine lv_iadd hx hb d_Go_isBorne_40 ?_
          refine lv_istore_n (lv' := [(2, .int (v2 + (eD E a3 4))), (4, .ref a3), (0, .ref (ad 3)), (1, .int v1), (3, .int v3)]) hx hb d_Go_isBorne_41 rfl hl (by decide) rfl (fun ls hl => ?_)
          obtain rfl := op_i1 hf
          exact K4 ls (lv_sub hl [2, 3, 0, 4] rfl)
def p_Go_isBorne (n : Nat) (E : PE) (F : Nat → Nat → Int32) (G : Nat → Nat → Int32) (P : Nat → Nat → Option Nat) (N : Nat → Nat) (v1 : Int32)  : Option (Int32) := (l_Go_isBorne_4 n E F G P N v1 n 0 0).bind fun y7 => (p_Integer_bitCount n v1).bind fun x9 => if eN E (N 3) = true then (if (eI E (N 3) 0) < x9 then some 0 else (if (eI E (N 3) 1) < y7 then some 0 else some 1) : Option (Int32)).bind fun x12 => if isZ x12 then some x12 else none else none
set_option maxHeartbeats 4000000 in
theorem c_Go_isBorne (l : Launch) (n : Nat) (E : PE) (F : Nat → Nat → Int32) (G : Nat → Nat → Int32) (P : Nat → Nat → Option Nat) (N : Nat → Nat) (dC : Nat → ClassId) (dI : Nat → Nat → Nat) (ad : Nat → Nat) (cI cZ cW cJ : ClassId) (v1 : Int32)   : ROi l y_Go_isBorne b_Go_isBorne 5 (.boolean) (rL 5) (cB dC dI ad cI cZ cW cJ E F G P N) [.ref (ad 3), .int v1] (p_Go_isBorne n E F G P N v1 ) := by
  refine en_roi (by decide) (Nat.le_of_ble_eq_true rfl) ?_
  intro z hf p e s m args below meth c ls hx hb hml hown hT hr hlk hB hl
  obtain ⟨hK, hP, hp, hi⟩ := hB
  have hl : lv_has ls 5 [(0, .ref (ad 3)), (1, .int v1)] := hl
  unfold p_Go_isBorne at hf
  refine lv_iconst (v := 0) hx hb d_Go_isBorne_0 (by decide) ?_
  refine lv_istore_n (lv' := [(2, .int 0), (0, .ref (ad 3)), (1, .int v1)]) hx hb d_Go_isBorne_1 rfl hl (by decide) rfl (fun ls hl => ?_)
  refine lv_iconst (v := 0) hx hb d_Go_isBorne_2 (by decide) ?_
  refine lv_istore_n (lv' := [(3, .int 0), (2, .int 0), (0, .ref (ad 3)), (1, .int v1)]) hx hb d_Go_isBorne_3 rfl hl (by decide) rfl (fun ls hl => ?_)
  obtain ⟨y7, he, hf⟩ := op_bind hf
  refine wl_Go_isBorne_4 hx hb hml hown hT hr hlk hK hP hp hi n v1 n 0 0 _ he (fun ls hl => ?_) ls (lv_sub hl [2, 3, 1, 0] rfl)
  refine lv_iload_n hx hb d_Go_isBorne_48 rfl (lv_at hl 1 rfl) ?_
  obtain ⟨x9, hc8, hf⟩ := op_bind hf
  refine ks_i (rest := []) hx hb hml hown hT (c_Integer_bitCount l n v1 _ hc8) (cbW 1 hT cd_Integer_bitCount rfl rfl ini_Integer ml_Go_89 hd_Integer_bitCount ⟨Nat.le_of_ble_eq_true rfl, Nat.le_of_ble_eq_true rfl⟩) sm_Integer_bitCount rfl hl.1 rfl (Nat.le_of_ble_eq_true rfl) d_Go_isBorne_49 ⟨Nat.zero_le _, Nat.zero_le _⟩ ?_
  refine lv_aload_n hx hb d_Go_isBorne_52 rfl (lv_at hl 0 rfl) ?_
  refine cg_3_4 hx hb hT hown hK hP fl_Go_22 d_Go_isBorne_53 ?_
  obtain ⟨h10, hf⟩ := op_if hf
  refine eg_0 hx hb hT hown hK (hp.2 (N 3) h10).1 fl_Go_95 d_Go_isBorne_56 ?_
  obtain ⟨x12, he, hf⟩ := op_bind hf
  have K11 : ∀ (ls : Array Slot), lv_has ls 5 [] → W p l e (rL 5) s m args below meth c s.heap [] 0 0 (MQ below (fun _ st oc t => oc = .returned (some (.int z)) ∧ t.heap = st.heap) args s 0 0 (fun _ => False)) (F0 m 78 ls [.int x12]) := by
    intro ls hl
    obtain ⟨h13, hf⟩ := op_if hf
    obtain rfl := op_i1 hf
    exact rt_si hx hb hr hlk (isZ_nar h13) d_Go_isBorne_78
  have hf := he
  refine lv_icmp_gt (tgt := 77) hx hb d_Go_isBorne_59 (by decide) (fun hc => ?_) (fun hc => ?_)
  · have hf := op_t hc hf
    refine lv_iconst (v := 0) hx hb d_Go_isBorne_77 (by decide) ?_
    obtain rfl := op_i1 hf
    exact K11 ls (lv_sub hl [] rfl)
  · have hf := op_f hc hf
    refine lv_iload_n hx hb d_Go_isBorne_62 rfl (lv_at hl 2 rfl) ?_
    refine lv_aload_n hx hb d_Go_isBorne_63 rfl (lv_at hl 0 rfl) ?_
    refine cg_3_4 hx hb hT hown hK hP fl_Go_22 d_Go_isBorne_64 ?_
    refine eg_1 hx hb hT hown hK (hp.2 (N 3) h10).1 fl_Go_98 d_Go_isBorne_67 ?_
    refine lv_icmp_gt (tgt := 77) hx hb d_Go_isBorne_70 (by decide) (fun hc => ?_) (fun hc => ?_)
    · have hf := op_t hc hf
      refine lv_iconst (v := 0) hx hb d_Go_isBorne_77 (by decide) ?_
      obtain rfl := op_i1 hf
      exact K11 ls (lv_sub hl [] rfl)
    · have hf := op_f hc hf
      refine lv_iconst (v := 1) hx hb d_Go_isBorne_73 (by decide) ?_
      refine lv_goto (tgt := 78) hx hb d_Go_isBorne_74 (by decide) ?_
      obtain rfl := op_i1 hf
      exact K11 ls (lv_sub hl [] rfl)
theorem hd_Go_goesHeavier : y_Go_goesHeavier.cls ≠ "java/lang/invoke/MethodHandle" ∧ y_Go_goesHeavier.cls ≠ "java/lang/invoke/VarHandle" ∧ (parseMethodDescriptor y_Go_goesHeavier.desc).map (fun d => d.parameters.length) = some 2 := by decide +kernel
theorem d_Go_goesHeavier_0 : decode b_Go_goesHeavier 0 = .ok (.iconst 0, 1) := by decide +kernel
theorem d_Go_goesHeavier_1 : decode b_Go_goesHeavier 1 = .ok (.istore_n 3, 1) := by decide +kernel
theorem d_Go_goesHeavier_2 : decode b_Go_goesHeavier 2 = .ok (.iload_n 3, 1) := by decide +kernel
theorem d_Go_goesHeavier_3 : decode b_Go_goesHeavier 3 = .ok (.aload_n 0, 1) := by decide +kernel
theorem d_Go_goesHeavier_4 : decode b_Go_goesHeavier 4 = .ok (.getfield 45, 3) := by decide +kernel
theorem d_Go_goesHeavier_7 : decode b_Go_goesHeavier 7 = .ok (.if_icmp .ge 42, 3) := by decide +kernel
theorem d_Go_goesHeavier_10 : decode b_Go_goesHeavier 10 = .ok (.aload_n 0, 1) := by decide +kernel
theorem d_Go_goesHeavier_11 : decode b_Go_goesHeavier 11 = .ok (.getfield 11, 3) := by decide +kernel
theorem d_Go_goesHeavier_14 : decode b_Go_goesHeavier 14 = .ok (.iload_n 3, 1) := by decide +kernel
theorem d_Go_goesHeavier_15 : decode b_Go_goesHeavier 15 = .ok (.aaload, 1) := by decide +kernel
theorem d_Go_goesHeavier_16 : decode b_Go_goesHeavier 16 = .ok (.astore 4, 2) := by decide +kernel
theorem d_Go_goesHeavier_18 : decode b_Go_goesHeavier 18 = .ok (.aload 4, 2) := by decide +kernel
theorem d_Go_goesHeavier_20 : decode b_Go_goesHeavier 20 = .ok (.ifnull 23, 3) := by decide +kernel
theorem d_Go_goesHeavier_23 : decode b_Go_goesHeavier 23 = .ok (.iload_n 1, 1) := by decide +kernel
theorem d_Go_goesHeavier_24 : decode b_Go_goesHeavier 24 = .ok (.iload_n 3, 1) := by decide +kernel
theorem d_Go_goesHeavier_25 : decode b_Go_goesHeavier 25 = .ok (.ishr, 1) := by decide +kernel
theorem d_Go_goesHeavier_26 : decode b_Go_goesHeavier 26 = .ok (.iconst 1, 1) := by decide +kernel
theorem d_Go_goesHeavier_27 : decode b_Go_goesHeavier 27 = .ok (.iand, 1) := by decide +kernel
theorem d_Go_goesHeavier_28 : decode b_Go_goesHeavier 28 = .ok (.iconst 1, 1) := by decide +kernel
theorem d_Go_goesHeavier_29 : decode b_Go_goesHeavier 29 = .ok (.if_icmp .ne 14, 3) := by decide +kernel
theorem d_Go_goesHeavier_32 : decode b_Go_goesHeavier 32 = .ok (.aload 4, 2) := by decide +kernel
theorem d_Go_goesHeavier_34 : decode b_Go_goesHeavier 34 = .ok (.getfield 86, 3) := by decide +kernel
theorem d_Go_goesHeavier_37 : decode b_Go_goesHeavier 37 = .ok (.iload_n 2, 1) := by decide +kernel
theorem d_Go_goesHeavier_38 : decode b_Go_goesHeavier 38 = .ok (.if_icmp .le 5, 3) := by decide +kernel
theorem d_Go_goesHeavier_41 : decode b_Go_goesHeavier 41 = .ok (.iconst 1, 1) := by decide +kernel
theorem d_Go_goesHeavier_42 : decode b_Go_goesHeavier 42 = .ok (.ireturn, 1) := by decide +kernel
theorem d_Go_goesHeavier_43 : decode b_Go_goesHeavier 43 = .ok (.iinc 3 1, 3) := by decide +kernel
theorem d_Go_goesHeavier_46 : decode b_Go_goesHeavier 46 = .ok (.goto (-44), 3) := by decide +kernel
theorem d_Go_goesHeavier_49 : decode b_Go_goesHeavier 49 = .ok (.iconst 0, 1) := by decide +kernel
theorem d_Go_goesHeavier_50 : decode b_Go_goesHeavier 50 = .ok (.ireturn, 1) := by decide +kernel
def l_Go_goesHeavier_2 (n : Nat) (E : PE) (F : Nat → Nat → Int32) (G : Nat → Nat → Int32) (P : Nat → Nat → Option Nat) (N : Nat → Nat)  (v1 : Int32) (v2 : Int32)  : Nat → Int32 → Option (Int32)
  | 0, _ => none
  | k + 1, v3 => (if (F 3 1) ≤ v3 then some 0 else if ix v3 6 then (some (P 10 v3.toNatClampNeg)).bind fun q2 => (Option.elim q2 (l_Go_goesHeavier_2 n E F G P N v1 v2 k (v3 + 1)) (fun a3 => (if ((v1 >>> (v3 &&& 31)) &&& 1) = 1 then if eV E a3 = true then (if (eD E a3 4) ≤ v2 then l_Go_goesHeavier_2 n E F G P N v1 v2 k (v3 + 1) else some 1) else none else l_Go_goesHeavier_2 n E F G P N v1 v2 k (v3 + 1)))) else none)
set_option maxHeartbeats 4000000 in
theorem wl_Go_goesHeavier_2  {p : Program} {l : Launch} {e : Env} {s : State} {m : MethodId} {args : Array Value} {below : List Frame} {meth : Method} {c : Code} (hx : p.tables.exec = Jvm.exec) (hb : c.code = b_Go_goesHeavier) (hml : c.maxLocals = 5) (hown : s.vm.findClass "LanternBridge$Goings" = some m.cls) (hT : ∀ w ∈ WT, w.before args s = true) (hr : meth.sig.returnType = some .boolean) (hlk : meth.locks = false) {dC : Nat → ClassId} {dI : Nat → Nat → Nat} {ad : Nat → Nat} {cI cZ cW cJ : ClassId} {E : PE} {F G : Nat → Nat → Int32} {P : Nat → Nat → Option Nat} {N : Nat → Nat} (hK : cK dC dI cI cZ cW cJ s) (hP : va_P (dC, dI) CL (cX ad cI cZ cW cJ F G P N) s.heap) (hp : pS dC dI cI E (fun _ => False) s.heap) (hi : iS s) (n : Nat)  (v1 : Int32) (v2 : Int32)  : ∀ (k : Nat) (v3 : Int32) (z : Int32), l_Go_goesHeavier_2 n E F G P N v1 v2 k v3 = some z → ∀ (ls : Array Slot), lv_has ls 5 [(0, .ref (ad 3)), (1, .int v1), (2, .int v2), (3, .int v3)] → W p l e (rL 5) s m args below meth c s.heap [] 0 0 (MQ below (fun _ st oc t => oc = .returned (some (.int z)) ∧ t.heap = st.heap) args s 0 0 (fun _ => False)) (F0 m 2 ls []) := by
  intro k
  induction k with
  | zero => intro v3 z hf; exact absurd hf (by unfold l_Go_goesHeavier_2; exact fun h9 => by cases h9)
  | succ k ih =>
    intro v3 z hf ls hl
    unfold l_Go_goesHeavier_2 at hf
    refine lv_iload_n hx hb d_Go_goesHeavier_2 rfl (lv_at hl 3 rfl) ?_
    refine lv_aload_n hx hb d_Go_goesHeavier_3 rfl (lv_at hl 0 rfl) ?_
    refine cg_3_1 hx hb hT hown hK hP fl_Go_45 d_Go_goesHeavier_4 ?_
    refine lv_icmp_ge (tgt := 49) hx hb d_Go_goesHeavier_7 (by decide) (fun hc => ?_) (fun hc => ?_)
    · have hf := op_t hc hf
      refine lv_iconst (v := 0) hx hb d_Go_goesHeavier_49 (by decide) ?_
      obtain rfl := op_i1 hf
      exact rt_si hx hb hr hlk (by decide) d_Go_goesHeavier_50
    · have hf := op_f hc hf
      refine lv_aload_n hx hb d_Go_goesHeavier_10 rfl (lv_at hl 0 rfl) ?_
      refine cg_3_0 hx hb hT hown hK hP fl_Go_11 d_Go_goesHeavier_11 ?_
      refine lv_iload_n hx hb d_Go_goesHeavier_14 rfl (lv_at hl 3 rfl) ?_
      obtain ⟨h1, hf⟩ := op_if hf
      obtain ⟨q2, hq2, hf⟩ := op_bind hf
      refine cq_10 hx hb hK hP rfl h1 d_Go_goesHeavier_15 ?_
      rw [op_i1 hq2]
      cases q2 with
      | none =>
        have hf := op_en hf
        refine lv_astoreN (lv' := [(4, .null), (0, .ref (ad 3)), (1, .int v1), (2, .int v2), (3, .int v3)]) hx hb d_Go_goesHeavier_16 hl (by decide) rfl (fun ls hl => ?_)
        refine lv_aloadN hx hb d_Go_goesHeavier_18 (lv_at hl 0 rfl) ?_
        refine lv_ifnullN (tgt := 43) hx hb d_Go_goesHeavier_20 (by decide) ?_
        refine lv_iinc (v := (v3 + 1)) (lv' := [(3, .int (v3 + 1)), (4, .null), (0, .ref (ad 3)), (1, .int v1), (2, .int v2)]) hx hb d_Go_goesHeavier_43 hl (k := 4) rfl rfl (by decide) rfl (fun ls hl => ?_)
        refine lv_goto (tgt := 2) hx hb d_Go_goesHeavier_46 (by decide) ?_
        exact ih (v3 + 1) _ hf ls (lv_sub hl [2, 3, 4, 0] rfl)
      | some a3 =>
        have hf := op_es hf
        refine lv_astore (lv' := [(4, .ref a3), (0, .ref (ad 3)), (1, .int v1), (2, .int v2), (3, .int v3)]) hx hb d_Go_goesHeavier_16 hl (by decide) rfl (fun ls hl => ?_)
        refine lv_aload hx hb d_Go_goesHeavier_18 (lv_at hl 0 rfl) ?_
        refine lv_ifnull hx hb d_Go_goesHeavier_20 ?_
        refine lv_iload_n hx hb d_Go_goesHeavier_23 rfl (lv_at hl 2 rfl) ?_
        refine lv_iload_n hx hb d_Go_goesHeavier_24 rfl (lv_at hl 4 rfl) ?_
        refine lv_ishr hx hb d_Go_goesHeavier_25 ?_
        refine lv_iconst (v := 1) hx hb d_Go_goesHeavier_26 (by decide) ?_
        refine lv_iand hx hb d_Go_goesHeavier_27 ?_
        refine lv_iconst (v := 1) hx hb d_Go_goesHeavier_28 (by decide) ?_
        refine lv_icmp_ne (tgt := 43) hx hb d_Go_goesHeavier_29 (by decide) (fun hc => ?_) (fun hc => ?_)
        · have hf := op_f hc hf
          refine lv_iinc (v := (v3 + 1)) (lv' := [(3, .int (v3 + 1)), (4, .ref a3), (0, .ref (ad 3)), (1, .int v1), (2, .int v2)]) hx hb d_Go_goesHeavier_43 hl (k := 4) rfl rfl (by decide) rfl (fun ls hl => ?_)
          refine lv_goto (tgt := 2) hx hb d_Go_goesHeavier_46 (by decide) ?_
          exact ih (v3 + 1) _ hf ls (lv_sub hl [2, 3, 4, 0] rfl)
        · have hf := op_t hc hf
          refine lv_aload hx hb d_Go_goesHeavier_32 (lv_at hl 0 rfl) ?_
          obtain ⟨h4, hf⟩ := op_if hf
          refine wg_4 hx hb hT hown hK (hp.1 a3 h4).1 (hp.1 a3 h4).2.1 fl_Go_86 (fun _ h9 => h9) d_Go_goesHeavier_34 ?_
          refine lv_iload_n hx hb d_Go_goesHeavier_37 rfl (lv_at hl 3 rfl) ?_
          refine lv_icmp_le (tgt := 43) hx hb d_Go_goesHeavier_38 (by decide) (fun hc => ?_) (fun hc => ?_)
          · have hf := op_t hc hf
            refine lv_iinc (v := (v3 + 1)) (lv' := [(3, .int (v3 + 1)), (4, .ref a3), (0, .ref (ad 3)), (1, .int v1), (2, .int v2)]) hx hb d_Go_goesHeavier_43 hl (k := 4) rfl rfl (by decide) rfl (fun ls hl => ?_)
            refine lv_goto (tgt := 2) hx hb d_Go_goesHeavier_46 (by decide) ?_
            exact ih (v3 + 1) _ hf ls (lv_sub hl [2, 3, 4, 0] rfl)
          · have hf := op_f hc hf
            refine lv_iconst (v := 1) hx hb d_Go_goesHeavier_41 (by decide) ?_
            obtain rfl := op_i1 hf
            exact rt_si hx hb hr hlk (by decide) d_Go_goesHeavier_42
def p_Go_goesHeavier (n : Nat) (E : PE) (F : Nat → Nat → Int32) (G : Nat → Nat → Int32) (P : Nat → Nat → Option Nat) (N : Nat → Nat) (v1 : Int32) (v2 : Int32)  : Option (Int32) := l_Go_goesHeavier_2 n E F G P N v1 v2 n 0
set_option maxHeartbeats 4000000 in
theorem c_Go_goesHeavier (l : Launch) (n : Nat) (E : PE) (F : Nat → Nat → Int32) (G : Nat → Nat → Int32) (P : Nat → Nat → Option Nat) (N : Nat → Nat) (dC : Nat → ClassId) (dI : Nat → Nat → Nat) (ad : Nat → Nat) (cI cZ cW cJ : ClassId) (v1 : Int32) (v2 : Int32)   : ROi l y_Go_goesHeavier b_Go_goesHeavier 5 (.boolean) (rL 5) (cB dC dI ad cI cZ cW cJ E F G P N) [.ref (ad 3), .int v1, .int v2] (p_Go_goesHeavier n E F G P N v1 v2 ) := by
  refine en_roi (by decide) (Nat.le_of_ble_eq_true rfl) ?_
  intro z hf p e s m args below meth c ls hx hb hml hown hT hr hlk hB hl
  obtain ⟨hK, hP, hp, hi⟩ := hB
  have hl : lv_has ls 5 [(0, .ref (ad 3)), (1, .int v1), (2, .int v2)] := hl
  unfold p_Go_goesHeavier at hf
  refine lv_iconst (v := 0) hx hb d_Go_goesHeavier_0 (by decide) ?_
  refine lv_istore_n (lv' := [(3, .int 0), (0, .ref (ad 3)), (1, .int v1), (2, .int v2)]) hx hb d_Go_goesHeavier_1 rfl hl (by decide) rfl (fun ls hl => ?_)
  exact wl_Go_goesHeavier_2 hx hb hml hown hT hr hlk hK hP hp hi n v1 v2 n 0 _ hf ls (lv_sub hl [1, 2, 3, 0] rfl)
theorem hd_Go_quickestOf : y_Go_quickestOf.cls ≠ "java/lang/invoke/MethodHandle" ∧ y_Go_quickestOf.cls ≠ "java/lang/invoke/VarHandle" ∧ (parseMethodDescriptor y_Go_quickestOf.desc).map (fun d => d.parameters.length) = some 1 := by decide +kernel
theorem d_Go_quickestOf_0 : decode b_Go_quickestOf 0 = .ok (.iconst 0, 1) := by decide +kernel
theorem d_Go_quickestOf_1 : decode b_Go_quickestOf 1 = .ok (.istore_n 2, 1) := by decide +kernel
theorem d_Go_quickestOf_2 : decode b_Go_quickestOf 2 = .ok (.iconst 0, 1) := by decide +kernel
theorem d_Go_quickestOf_3 : decode b_Go_quickestOf 3 = .ok (.istore_n 3, 1) := by decide +kernel
theorem d_Go_quickestOf_4 : decode b_Go_quickestOf 4 = .ok (.iconst 0, 1) := by decide +kernel
theorem d_Go_quickestOf_5 : decode b_Go_quickestOf 5 = .ok (.istore 4, 2) := by decide +kernel
theorem d_Go_quickestOf_7 : decode b_Go_quickestOf 7 = .ok (.iload 4, 2) := by decide +kernel
theorem d_Go_quickestOf_9 : decode b_Go_quickestOf 9 = .ok (.aload_n 0, 1) := by decide +kernel
theorem d_Go_quickestOf_10 : decode b_Go_quickestOf 10 = .ok (.getfield 45, 3) := by decide +kernel
theorem d_Go_quickestOf_13 : decode b_Go_quickestOf 13 = .ok (.if_icmp .ge 59, 3) := by decide +kernel
theorem d_Go_quickestOf_16 : decode b_Go_quickestOf 16 = .ok (.aload_n 0, 1) := by decide +kernel
theorem d_Go_quickestOf_17 : decode b_Go_quickestOf 17 = .ok (.getfield 11, 3) := by decide +kernel
theorem d_Go_quickestOf_20 : decode b_Go_quickestOf 20 = .ok (.iload 4, 2) := by decide +kernel
theorem d_Go_quickestOf_22 : decode b_Go_quickestOf 22 = .ok (.aaload, 1) := by decide +kernel
theorem d_Go_quickestOf_23 : decode b_Go_quickestOf 23 = .ok (.astore 5, 2) := by decide +kernel
theorem d_Go_quickestOf_25 : decode b_Go_quickestOf 25 = .ok (.aload 5, 2) := by decide +kernel
theorem d_Go_quickestOf_27 : decode b_Go_quickestOf 27 = .ok (.ifnull 39, 3) := by decide +kernel
theorem d_Go_quickestOf_30 : decode b_Go_quickestOf 30 = .ok (.iload_n 1, 1) := by decide +kernel
theorem d_Go_quickestOf_31 : decode b_Go_quickestOf 31 = .ok (.iload 4, 2) := by decide +kernel
theorem d_Go_quickestOf_33 : decode b_Go_quickestOf 33 = .ok (.ishr, 1) := by decide +kernel
theorem d_Go_quickestOf_34 : decode b_Go_quickestOf 34 = .ok (.iconst 1, 1) := by decide +kernel
theorem d_Go_quickestOf_35 : decode b_Go_quickestOf 35 = .ok (.iand, 1) := by decide +kernel
theorem d_Go_quickestOf_36 : decode b_Go_quickestOf 36 = .ok (.ifCond .ne 6, 3) := by decide +kernel
theorem d_Go_quickestOf_39 : decode b_Go_quickestOf 39 = .ok (.goto 27, 3) := by decide +kernel
theorem d_Go_quickestOf_42 : decode b_Go_quickestOf 42 = .ok (.iload_n 2, 1) := by decide +kernel
theorem d_Go_quickestOf_43 : decode b_Go_quickestOf 43 = .ok (.ifCond .eq 12, 3) := by decide +kernel
theorem d_Go_quickestOf_46 : decode b_Go_quickestOf 46 = .ok (.aload 5, 2) := by decide +kernel
theorem d_Go_quickestOf_48 : decode b_Go_quickestOf 48 = .ok (.getfield 109, 3) := by decide +kernel
theorem d_Go_quickestOf_51 : decode b_Go_quickestOf 51 = .ok (.iload_n 3, 1) := by decide +kernel
theorem d_Go_quickestOf_52 : decode b_Go_quickestOf 52 = .ok (.if_icmp .ge 14, 3) := by decide +kernel
theorem d_Go_quickestOf_55 : decode b_Go_quickestOf 55 = .ok (.iconst 1, 1) := by decide +kernel
theorem d_Go_quickestOf_56 : decode b_Go_quickestOf 56 = .ok (.iload 4, 2) := by decide +kernel
theorem d_Go_quickestOf_58 : decode b_Go_quickestOf 58 = .ok (.ishl, 1) := by decide +kernel
theorem d_Go_quickestOf_59 : decode b_Go_quickestOf 59 = .ok (.istore_n 2, 1) := by decide +kernel
theorem d_Go_quickestOf_60 : decode b_Go_quickestOf 60 = .ok (.aload 5, 2) := by decide +kernel
theorem d_Go_quickestOf_62 : decode b_Go_quickestOf 62 = .ok (.getfield 109, 3) := by decide +kernel
theorem d_Go_quickestOf_65 : decode b_Go_quickestOf 65 = .ok (.istore_n 3, 1) := by decide +kernel
theorem d_Go_quickestOf_66 : decode b_Go_quickestOf 66 = .ok (.iinc 4 1, 3) := by decide +kernel
theorem d_Go_quickestOf_69 : decode b_Go_quickestOf 69 = .ok (.goto (-62), 3) := by decide +kernel
theorem d_Go_quickestOf_72 : decode b_Go_quickestOf 72 = .ok (.iload_n 2, 1) := by decide +kernel
theorem d_Go_quickestOf_73 : decode b_Go_quickestOf 73 = .ok (.ireturn, 1) := by decide +kernel
def l_Go_quickestOf_7 (n : Nat) (E : PE) (F : Nat → Nat → Int32) (G : Nat → Nat → Int32) (P : Nat → Nat → Option Nat) (N : Nat → Nat)  (v1 : Int32)  : Nat → Int32 → Int32 → Int32 → Option (Int32)
  | 0, _, _, _ => none
  | k + 1, v2, v3, v4 => (if (F 3 1) ≤ v4 then some v2 else if ix v4 6 then (some (P 10 v4.toNatClampNeg)).bind fun q2 => (Option.elim q2 (l_Go_quickestOf_7 n E F G P N v1 k v2 v3 (v4 + 1)) (fun a3 => (if ((v1 >>> (v4 &&& 31)) &&& 1) = 0 then some (v2, v3) else (if v2 = 0 then if eV E a3 = true then some ((1 <<< (v4 &&& 31)), (eD E a3 3)) else none else if eV E a3 = true then (if v3 ≤ (eD E a3 3) then some (v2, v3) else some ((1 <<< (v4 &&& 31)), (eD E a3 3))) else none) : Option (Int32 × Int32)).bind fun (x5, x6) => l_Go_quickestOf_7 n E F G P N v1 k x5 x6 (v4 + 1))) else none)
set_option maxHeartbeats 4000000 in
theorem wl_Go_quickestOf_7 {Q : State → Prop}  {p : Program} {l : Launch} {e : Env} {s : State} {m : MethodId} {args : Array Value} {below : List Frame} {meth : Method} {c : Code} (hx : p.tables.exec = Jvm.exec) (hb : c.code = b_Go_quickestOf) (hml : c.maxLocals = 6) (hown : s.vm.findClass "LanternBridge$Goings" = some m.cls) (hT : ∀ w ∈ WT, w.before args s = true) (hr : meth.sig.returnType = some .int) (hlk : meth.locks = false) {dC : Nat → ClassId} {dI : Nat → Nat → Nat} {ad : Nat → Nat} {cI cZ cW cJ : ClassId} {E : PE} {F G : Nat → Nat → Int32} {P : Nat → Nat → Option Nat} {N : Nat → Nat} (hK : cK dC dI cI cZ cW cJ s) (hP : va_P (dC, dI) CL (cX ad cI cZ cW cJ F G P N) s.heap) (hp : pS dC dI cI E (fun _ => False) s.heap) (hi : iS s) (n : Nat)  (v1 : Int32)  : ∀ (k : Nat) (v2 : Int32) (v3 : Int32) (v4 : Int32) (r0 : Int32), l_Go_quickestOf_7 n E F G P N v1 k v2 v3 v4 = some r0 → (∀ (ls : Array Slot), lv_has ls 6 [(2, .int r0)] → W p l e (rL 5) s m args below meth c s.heap [] 0 0 Q (F0 m 72 ls [])) → ∀ (ls : Array Slot), lv_has ls 6 [(0, .ref (ad 3)), (1, .int v1), (2, .int v2), (3, .int v3), (4, .int v4)] → W p l e (rL 5) s m args below meth c s.heap [] 0 0 Q (F0 m 7 ls []) := by
  intro k
  induction k with
  | zero => intro v2 v3 v4 r0 hf; exact absurd hf (by unfold l_Go_quickestOf_7; exact fun h9 => by cases h9)
  | succ k ih =>
    intro v2 v3 v4 r0 hf K ls hl
    unfold l_Go_quickestOf_7 at hf
    refine lv_iload hx hb d_Go_quickestOf_7 (lv_at hl 4 rfl) ?_
    refine lv_aload_n hx hb d_Go_quickestOf_9 rfl (lv_at hl 0 rfl) ?_
    refine cg_3_1 hx hb hT hown hK hP fl_Go_45 d_Go_quickestOf_10 ?_
    refine lv_icmp_ge (tgt := 72) hx hb d_Go_quickestOf_13 (by decide) (fun hc => ?_) (fun hc => ?_)
    · have hf := op_t hc hf
      obtain rfl := op_i1 hf
      exact K ls (lv_sub hl [2] rfl)
    · have hf := op_f hc hf
      refine lv_aload_n hx hb d_Go_quickestOf_16 rfl (lv_at hl 0 rfl) ?_
      refine cg_3_0 hx hb hT hown hK hP fl_Go_11 d_Go_quickestOf_17 ?_
      refine lv_iload hx hb d_Go_quickestOf_20 (lv_at hl 4 rfl) ?_
      obtain ⟨h1, hf⟩ := op_if hf
      obtain ⟨q2, hq2, hf⟩ := op_bind hf
      refine cq_10 hx hb hK hP rfl h1 d_Go_quickestOf_22 ?_
      rw [op_i1 hq2]
      cases q2 with
      | none =>
        have hf := op_en hf
        refine lv_astoreN (lv' := [(5, .null), (0, .ref (ad 3)), (1, .int v1), (2, .int v2), (3, .int v3), (4, .int v4)]) hx hb d_Go_quickestOf_23 hl (by decide) rfl (fun ls hl => ?_)
        refine lv_aloadN hx hb d_Go_quickestOf_25 (lv_at hl 0 rfl) ?_
        refine lv_ifnullN (tgt := 66) hx hb d_Go_quickestOf_27 (by decide) ?_
        refine lv_iinc (v := (v4 + 1)) (lv' := [(4, .int (v4 + 1)), (5, .null), (0, .ref (ad 3)), (1, .int v1), (2, .int v2), (3, .int v3)]) hx hb d_Go_quickestOf_66 hl (k := 5) rfl rfl (by decide) rfl (fun ls hl => ?_)
        refine lv_goto (tgt := 7) hx hb d_Go_quickestOf_69 (by decide) ?_
        exact ih v2 v3 (v4 + 1) _ hf K ls (lv_sub hl [2, 3, 4, 5, 0] rfl)
      | some a3 =>
        have hf := op_es hf
        refine lv_astore (lv' := [(5, .ref a3), (0, .ref (ad 3)), (1, .int v1), (2, .int v2), (3, .int v3), (4, .int v4)]) hx hb d_Go_quickestOf_23 hl (by decide) rfl (fun ls hl => ?_)
        refine lv_aload hx hb d_Go_quickestOf_25 (lv_at hl 0 rfl) ?_
        refine lv_ifnull hx hb d_Go_quickestOf_27 ?_
        refine lv_iload_n hx hb d_Go_quickestOf_30 rfl (lv_at hl 2 rfl) ?_
        refine lv_iload hx hb d_Go_quickestOf_31 (lv_at hl 5 rfl) ?_
        refine lv_ishr hx hb d_Go_quickestOf_33 ?_
        refine lv_iconst (v := 1) hx hb d_Go_quickestOf_34 (by decide) ?_
        refine lv_iand hx hb d_Go_quickestOf_35 ?_
        obtain ⟨⟨x5, x6⟩, he, hf⟩ := op_bind hf
        try dsimp only at hf
        have K4 : ∀ (ls : Array Slot), lv_has ls 6 [(0, .ref (ad 3)), (1, .int v1), (2, .int x5), (3, .int x6), (4, .int v4)] → W p l e (rL 5) s m args below meth c s.heap [] 0 0 Q (F0 m 66 ls []) := by
          intro ls hl
          refine lv_iinc (v := (v4 + 1)) (lv' := [(4, .int (v4 + 1)), (0, .ref (ad 3)), (1, .int v1), (2, .int x5), (3, .int x6)]) hx hb d_Go_quickestOf_66 hl (k := 4) rfl rfl (by decide) rfl (fun ls hl => ?_)
          refine lv_goto (tgt := 7) hx hb d_Go_quickestOf_69 (by decide) ?_
          exact ih x5 x6 (v4 + 1) _ hf K ls (lv_sub hl [1, 2, 3, 4, 0] rfl)
        have hf := he
        refine lv_if_ne (tgt := 42) hx hb d_Go_quickestOf_36 (by decide) (fun hc => ?_) (fun hc => ?_)
        · have hf := op_f hc hf
          refine lv_iload_n hx hb d_Go_quickestOf_42 rfl (lv_at hl 3 rfl) ?_
          refine lv_if_eq (tgt := 55) hx hb d_Go_quickestOf_43 (by decide) (fun hc => ?_) (fun hc => ?_)
          · have hf := op_t hc hf
            refine lv_iconst (v := 1) hx hb d_Go_quickestOf_55 (by decide) ?_
            refine lv_iload hx hb d_Go_quickestOf_56 (lv_at hl 5 rfl) ?_
            refine lv_ishl hx hb d_Go_quickestOf_58 ?_
            refine lv_istore_n (lv' := [(2, .int (1 <<< (v4 &&& 31))), (5, .ref a3), (0, .ref (ad 3)), (1, .int v1), (3, .int v3), (4, .int v4)]) hx hb d_Go_quickestOf_59 rfl hl (by decide) rfl (fun ls hl => ?_)
            refine lv_aload hx hb d_Go_quickestOf_60 (lv_at hl 1 rfl) ?_
            obtain ⟨h7, hf⟩ := op_if hf
            refine wg_3 hx hb hT hown hK (hp.1 a3 h7).1 (hp.1 a3 h7).2.1 fl_Go_109 (fun _ h9 => h9) d_Go_quickestOf_62 ?_
            refine lv_istore_n (lv' := [(3, .int (eD E a3 3)), (2, .int (1 <<< (v4 &&& 31))), (5, .ref a3), (0, .ref (ad 3)), (1, .int v1), (4, .int v4)]) hx hb d_Go_quickestOf_65 rfl hl (by decide) rfl (fun ls hl => ?_)
            obtain ⟨rfl, rfl⟩ := op_i2 hf
            exact K4 ls (lv_sub hl [3, 4, 1, 0, 5] rfl)
          · have hf := op_f hc hf
            refine lv_aload hx hb d_Go_quickestOf_46 (lv_at hl 0 rfl) ?_
            obtain ⟨h8, hf⟩ := op_if hf
            refine wg_3 hx hb hT hown hK (hp.1 a3 h8).1 (hp.1 a3 h8).2.1 fl_Go_109 (fun _ h9 => h9) d_Go_quickestOf_48 ?_
            refine lv_iload_n hx hb d_Go_quickestOf_51 rfl (lv_at hl 4 rfl) ?_
            refine lv_icmp_ge (tgt := 66) hx hb d_Go_quickestOf_52 (by decide) (fun hc => ?_) (fun hc => ?_)
            · have hf := op_t hc hf
              obtain ⟨rfl, rfl⟩ := op_i2 hf
              exact K4 ls (lv_sub hl [1, 2, 3, 4, 5] rfl)
            · have hf := op_f hc hf
              refine lv_iconst (v := 1) hx hb d_Go_quickestOf_55 (by decide) ?_
              refine lv_iload hx hb d_Go_quickestOf_56 (lv_at hl 5 rfl) ?_
              refine lv_ishl hx hb d_Go_quickestOf_58 ?_
              refine lv_istore_n (lv' := [(2, .int (1 <<< (v4 &&& 31))), (5, .ref a3), (0, .ref (ad 3)), (1, .int v1), (3, .int v3), (4, .int v4)]) hx hb d_Go_quickestOf_59 rfl hl (by decide) rfl (fun ls hl => ?_)
              refine lv_aload hx hb d_Go_quickestOf_60 (lv_at hl 1 rfl) ?_
              refine wg_3 hx hb hT hown hK (hp.1 a3 h8).1 (hp.1 a3 h8).2.1 fl_Go_109 (fun _ h9 => h9) d_Go_quickestOf_62 ?_
              refine lv_istore_n (lv' := [(3, .int (eD E a3 3)), (2, .int (1 <<< (v4 &&& 31))), (5, .ref a3), (0, .ref (ad 3)), (1, .int v1), (4, .int v4)]) hx hb d_Go_quickestOf_65 rfl hl (by decide) rfl (fun ls hl => ?_)
              obtain ⟨rfl, rfl⟩ := op_i2 hf
              exact K4 ls (lv_sub hl [3, 4, 1, 0, 5] rfl)
        · have hf := op_t hc hf
          refine lv_goto (tgt := 66) hx hb d_Go_quickestOf_39 (by decide) ?_
          obtain ⟨rfl, rfl⟩ := op_i2 hf
          exact K4 ls (lv_sub hl [1, 2, 3, 4, 5] rfl)
def p_Go_quickestOf (n : Nat) (E : PE) (F : Nat → Nat → Int32) (G : Nat → Nat → Int32) (P : Nat → Nat → Option Nat) (N : Nat → Nat) (v1 : Int32)  : Option (Int32) := (l_Go_quickestOf_7 n E F G P N v1 n 0 0 0).bind fun y9 => some y9
set_option maxHeartbeats 4000000 in
theorem c_Go_quickestOf (l : Launch) (n : Nat) (E : PE) (F : Nat → Nat → Int32) (G : Nat → Nat → Int32) (P : Nat → Nat → Option Nat) (N : Nat → Nat) (dC : Nat → ClassId) (dI : Nat → Nat → Nat) (ad : Nat → Nat) (cI cZ cW cJ : ClassId) (v1 : Int32)   : ROi l y_Go_quickestOf b_Go_quickestOf 6 (.int) (rL 5) (cB dC dI ad cI cZ cW cJ E F G P N) [.ref (ad 3), .int v1] (p_Go_quickestOf n E F G P N v1 ) := by
  refine en_roi (by decide) (Nat.le_of_ble_eq_true rfl) ?_
  intro z hf p e s m args below meth c ls hx hb hml hown hT hr hlk hB hl
  obtain ⟨hK, hP, hp, hi⟩ := hB
  have hl : lv_has ls 6 [(0, .ref (ad 3)), (1, .int v1)] := hl
  unfold p_Go_quickestOf at hf
  refine lv_iconst (v := 0) hx hb d_Go_quickestOf_0 (by decide) ?_
  refine lv_istore_n (lv' := [(2, .int 0), (0, .ref (ad 3)), (1, .int v1)]) hx hb d_Go_quickestOf_1 rfl hl (by decide) rfl (fun ls hl => ?_)
  refine lv_iconst (v := 0) hx hb d_Go_quickestOf_2 (by decide) ?_
  refine lv_istore_n (lv' := [(3, .int 0), (2, .int 0), (0, .ref (ad 3)), (1, .int v1)]) hx hb d_Go_quickestOf_3 rfl hl (by decide) rfl (fun ls hl => ?_)
  refine lv_iconst (v := 0) hx hb d_Go_quickestOf_4 (by decide) ?_
  refine lv_istore (lv' := [(4, .int 0), (3, .int 0), (2, .int 0), (0, .ref (ad 3)), (1, .int v1)]) hx hb d_Go_quickestOf_5 hl (by decide) rfl (fun ls hl => ?_)
  obtain ⟨y9, he, hf⟩ := op_bind hf
  refine wl_Go_quickestOf_7 hx hb hml hown hT hr hlk hK hP hp hi n v1 n 0 0 0 _ he (fun ls hl => ?_) ls (lv_sub hl [3, 4, 2, 1, 0] rfl)
  refine lv_iload_n hx hb d_Go_quickestOf_72 rfl (lv_at hl 0 rfl) ?_
  obtain rfl := op_i1 hf
  exact rt_si hx hb hr hlk rfl d_Go_quickestOf_73
theorem hd_Go_slowestOf : y_Go_slowestOf.cls ≠ "java/lang/invoke/MethodHandle" ∧ y_Go_slowestOf.cls ≠ "java/lang/invoke/VarHandle" ∧ (parseMethodDescriptor y_Go_slowestOf.desc).map (fun d => d.parameters.length) = some 1 := by decide +kernel
theorem d_Go_slowestOf_0 : decode b_Go_slowestOf 0 = .ok (.iconst 0, 1) := by decide +kernel
theorem d_Go_slowestOf_1 : decode b_Go_slowestOf 1 = .ok (.istore_n 2, 1) := by decide +kernel
theorem d_Go_slowestOf_2 : decode b_Go_slowestOf 2 = .ok (.iconst 0, 1) := by decide +kernel
theorem d_Go_slowestOf_3 : decode b_Go_slowestOf 3 = .ok (.istore_n 3, 1) := by decide +kernel
theorem d_Go_slowestOf_4 : decode b_Go_slowestOf 4 = .ok (.iconst 0, 1) := by decide +kernel
theorem d_Go_slowestOf_5 : decode b_Go_slowestOf 5 = .ok (.istore 4, 2) := by decide +kernel
theorem d_Go_slowestOf_7 : decode b_Go_slowestOf 7 = .ok (.iload 4, 2) := by decide +kernel
theorem d_Go_slowestOf_9 : decode b_Go_slowestOf 9 = .ok (.aload_n 0, 1) := by decide +kernel
theorem d_Go_slowestOf_10 : decode b_Go_slowestOf 10 = .ok (.getfield 45, 3) := by decide +kernel
theorem d_Go_slowestOf_13 : decode b_Go_slowestOf 13 = .ok (.if_icmp .ge 59, 3) := by decide +kernel
theorem d_Go_slowestOf_16 : decode b_Go_slowestOf 16 = .ok (.aload_n 0, 1) := by decide +kernel
theorem d_Go_slowestOf_17 : decode b_Go_slowestOf 17 = .ok (.getfield 11, 3) := by decide +kernel
theorem d_Go_slowestOf_20 : decode b_Go_slowestOf 20 = .ok (.iload 4, 2) := by decide +kernel
theorem d_Go_slowestOf_22 : decode b_Go_slowestOf 22 = .ok (.aaload, 1) := by decide +kernel
theorem d_Go_slowestOf_23 : decode b_Go_slowestOf 23 = .ok (.astore 5, 2) := by decide +kernel
theorem d_Go_slowestOf_25 : decode b_Go_slowestOf 25 = .ok (.aload 5, 2) := by decide +kernel
theorem d_Go_slowestOf_27 : decode b_Go_slowestOf 27 = .ok (.ifnull 39, 3) := by decide +kernel
theorem d_Go_slowestOf_30 : decode b_Go_slowestOf 30 = .ok (.iload_n 1, 1) := by decide +kernel
theorem d_Go_slowestOf_31 : decode b_Go_slowestOf 31 = .ok (.iload 4, 2) := by decide +kernel
theorem d_Go_slowestOf_33 : decode b_Go_slowestOf 33 = .ok (.ishr, 1) := by decide +kernel
theorem d_Go_slowestOf_34 : decode b_Go_slowestOf 34 = .ok (.iconst 1, 1) := by decide +kernel
theorem d_Go_slowestOf_35 : decode b_Go_slowestOf 35 = .ok (.iand, 1) := by decide +kernel
theorem d_Go_slowestOf_36 : decode b_Go_slowestOf 36 = .ok (.ifCond .ne 6, 3) := by decide +kernel
theorem d_Go_slowestOf_39 : decode b_Go_slowestOf 39 = .ok (.goto 27, 3) := by decide +kernel
theorem d_Go_slowestOf_42 : decode b_Go_slowestOf 42 = .ok (.iload_n 2, 1) := by decide +kernel
theorem d_Go_slowestOf_43 : decode b_Go_slowestOf 43 = .ok (.ifCond .eq 12, 3) := by decide +kernel
theorem d_Go_slowestOf_46 : decode b_Go_slowestOf 46 = .ok (.aload 5, 2) := by decide +kernel
theorem d_Go_slowestOf_48 : decode b_Go_slowestOf 48 = .ok (.getfield 109, 3) := by decide +kernel
theorem d_Go_slowestOf_51 : decode b_Go_slowestOf 51 = .ok (.iload_n 3, 1) := by decide +kernel
theorem d_Go_slowestOf_52 : decode b_Go_slowestOf 52 = .ok (.if_icmp .lt 14, 3) := by decide +kernel
theorem d_Go_slowestOf_55 : decode b_Go_slowestOf 55 = .ok (.iconst 1, 1) := by decide +kernel
theorem d_Go_slowestOf_56 : decode b_Go_slowestOf 56 = .ok (.iload 4, 2) := by decide +kernel
theorem d_Go_slowestOf_58 : decode b_Go_slowestOf 58 = .ok (.ishl, 1) := by decide +kernel
theorem d_Go_slowestOf_59 : decode b_Go_slowestOf 59 = .ok (.istore_n 2, 1) := by decide +kernel
theorem d_Go_slowestOf_60 : decode b_Go_slowestOf 60 = .ok (.aload 5, 2) := by decide +kernel
theorem d_Go_slowestOf_62 : decode b_Go_slowestOf 62 = .ok (.getfield 109, 3) := by decide +kernel
theorem d_Go_slowestOf_65 : decode b_Go_slowestOf 65 = .ok (.istore_n 3, 1) := by decide +kernel
theorem d_Go_slowestOf_66 : decode b_Go_slowestOf 66 = .ok (.iinc 4 1, 3) := by decide +kernel
theorem d_Go_slowestOf_69 : decode b_Go_slowestOf 69 = .ok (.goto (-62), 3) := by decide +kernel
theorem d_Go_slowestOf_72 : decode b_Go_slowestOf 72 = .ok (.iload_n 2, 1) := by decide +kernel
theorem d_Go_slowestOf_73 : decode b_Go_slowestOf 73 = .ok (.ireturn, 1) := by decide +kernel
def l_Go_slowestOf_7 (n : Nat) (E : PE) (F : Nat → Nat → Int32) (G : Nat → Nat → Int32) (P : Nat → Nat → Option Nat) (N : Nat → Nat)  (v1 : Int32)  : Nat → Int32 → Int32 → Int32 → Option (Int32)
  | 0, _, _, _ => none
  | k + 1, v2, v3, v4 => (if (F 3 1) ≤ v4 then some v2 else if ix v4 6 then (some (P 10 v4.toNatClampNeg)).bind fun q2 => (Option.elim q2 (l_Go_slowestOf_7 n E F G P N v1 k v2 v3 (v4 + 1)) (fun a3 => (if ((v1 >>> (v4 &&& 31)) &&& 1) = 0 then some (v2, v3) else (if v2 = 0 then if eV E a3 = true then some ((1 <<< (v4 &&& 31)), (eD E a3 3)) else none else if eV E a3 = true then (if (eD E a3 3) < v3 then some (v2, v3) else some ((1 <<< (v4 &&& 31)), (eD E a3 3))) else none) : Option (Int32 × Int32)).bind fun (x5, x6) => l_Go_slowestOf_7 n E F G P N v1 k x5 x6 (v4 + 1))) else none)
set_option maxHeartbeats 4000000 in
theorem wl_Go_slowestOf_7 {Q : State → Prop}  {p : Program} {l : Launch} {e : Env} {s : State} {m : MethodId} {args : Array Value} {below : List Frame} {meth : Method} {c : Code} (hx : p.tables.exec = Jvm.exec) (hb : c.code = b_Go_slowestOf) (hml : c.maxLocals = 6) (hown : s.vm.findClass "LanternBridge$Goings" = some m.cls) (hT : ∀ w ∈ WT, w.before args s = true) (hr : meth.sig.returnType = some .int) (hlk : meth.locks = false) {dC : Nat → ClassId} {dI : Nat → Nat → Nat} {ad : Nat → Nat} {cI cZ cW cJ : ClassId} {E : PE} {F G : Nat → Nat → Int32} {P : Nat → Nat → Option Nat} {N : Nat → Nat} (hK : cK dC dI cI cZ cW cJ s) (hP : va_P (dC, dI) CL (cX ad cI cZ cW cJ F G P N) s.heap) (hp : pS dC dI cI E (fun _ => False) s.heap) (hi : iS s) (n : Nat)  (v1 : Int32)  : ∀ (k : Nat) (v2 : Int32) (v3 : Int32) (v4 : Int32) (r0 : Int32), l_Go_slowestOf_7 n E F G P N v1 k v2 v3 v4 = some r0 → (∀ (ls : Array Slot), lv_has ls 6 [(2, .int r0)] → W p l e (rL 5) s m args below meth c s.heap [] 0 0 Q (F0 m 72 ls [])) → ∀ (ls : Array Slot), lv_has ls 6 [(0, .ref (ad 3)), (1, .int v1), (2, .int v2), (3, .int v3), (4, .int v4)] → W p l e (rL 5) s m args below meth c s.heap [] 0 0 Q (F0 m 7 ls []) := by
  intro k
  induction k with
  | zero => intro v2 v3 v4 r0 hf; exact absurd hf (by unfold l_Go_slowestOf_7; exact fun h9 => by cases h9)
  | succ k ih =>
    intro v2 v3 v4 r0 hf K ls hl
    unfold l_Go_slowestOf_7 at hf
    refine lv_iload hx hb d_Go_slowestOf_7 (lv_at hl 4 rfl) ?_
    refine lv_aload_n hx hb d_Go_slowestOf_9 rfl (lv_at hl 0 rfl) ?_
    refine cg_3_1 hx hb hT hown hK hP fl_Go_45 d_Go_slowestOf_10 ?_
    refine lv_icmp_ge (tgt := 72) hx hb d_Go_slowestOf_13 (by decide) (fun hc => ?_) (fun hc => ?_)
    · have hf := op_t hc hf
      obtain rfl := op_i1 hf
      exact K ls (lv_sub hl [2] rfl)
    · have hf := op_f hc hf
      refine lv_aload_n hx hb d_Go_slowestOf_16 rfl (lv_at hl 0 rfl) ?_
      refine cg_3_0 hx hb hT hown hK hP fl_Go_11 d_Go_slowestOf_17 ?_
      refine lv_iload hx hb d_Go_slowestOf_20 (lv_at hl 4 rfl) ?_
      obtain ⟨h1, hf⟩ := op_if hf
      obtain ⟨q2, hq2, hf⟩ := op_bind hf
      refine cq_10 hx hb hK hP rfl h1 d_Go_slowestOf_22 ?_
      rw [op_i1 hq2]
      cases q2 with
      | none =>
        have hf := op_en hf
        refine lv_astoreN (lv' := [(5, .null), (0, .ref (ad 3)), (1, .int v1), (2, .int v2), (3, .int v3), (4, .int v4)]) hx hb d_Go_slowestOf_23 hl (by decide) rfl (fun ls hl => ?_)
        refine lv_aloadN hx hb d_Go_slowestOf_25 (lv_at hl 0 rfl) ?_
        refine lv_ifnullN (tgt := 66) hx hb d_Go_slowestOf_27 (by decide) ?_
        refine lv_iinc (v := (v4 + 1)) (lv' := [(4, .int (v4 + 1)), (5, .null), (0, .ref (ad 3)), (1, .int v1), (2, .int v2), (3, .int v3)]) hx hb d_Go_slowestOf_66 hl (k := 5) rfl rfl (by decide) rfl (fun ls hl => ?_)
        refine lv_goto (tgt := 7) hx hb d_Go_slowestOf_69 (by decide) ?_
        exact ih v2 v3 (v4 + 1) _ hf K ls (lv_sub hl [2, 3, 4, 5, 0] rfl)
      | some a3 =>
        have hf := op_es hf
        refine lv_astore (lv' := [(5, .ref a3), (0, .ref (ad 3)), (1, .int v1), (2, .int v2), (3, .int v3), (4, .int v4)]) hx hb d_Go_slowestOf_23 hl (by decide) rfl (fun ls hl => ?_)
        refine lv_aload hx hb d_Go_slowestOf_25 (lv_at hl 0 rfl) ?_
        refine lv_ifnull hx hb d_Go_slowestOf_27 ?_
        refine lv_iload_n hx hb d_Go_slowestOf_30 rfl (lv_at hl 2 rfl) ?_
        refine lv_iload hx hb d_Go_slowestOf_31 (lv_at hl 5 rfl) ?_
        refine lv_ishr hx hb d_Go_slowestOf_33 ?_
        refine lv_iconst (v := 1) hx hb d_Go_slowestOf_34 (by decide) ?_
        refine lv_iand hx hb d_Go_slowestOf_35 ?_
        obtain ⟨⟨x5, x6⟩, he, hf⟩ := op_bind hf
        try dsimp only at hf
        have K4 : ∀ (ls : Array Slot), lv_has ls 6 [(0, .ref (ad 3)), (1, .int v1), (2, .int x5), (3, .int x6), (4, .int v4)] → W p l e (rL 5) s m args below meth c s.heap [] 0 0 Q (F0 m 66 ls []) := by
          intro ls hl
          refine lv_iinc (v := (v4 + 1)) (lv' := [(4, .int (v4 + 1)), (0, .ref (ad 3)), (1, .int v1), (2, .int x5), (3, .int x6)]) hx hb d_Go_slowestOf_66 hl (k := 4) rfl rfl (by decide) rfl (fun ls hl => ?_)
          refine lv_goto (tgt := 7) hx hb d_Go_slowestOf_69 (by decide) ?_
          exact ih x5 x6 (v4 + 1) _ hf K ls (lv_sub hl [1, 2, 3, 4, 0] rfl)
        have hf := he
        refine lv_if_ne (tgt := 42) hx hb d_Go_slowestOf_36 (by decide) (fun hc => ?_) (fun hc => ?_)
        · have hf := op_f hc hf
          refine lv_iload_n hx hb d_Go_slowestOf_42 rfl (lv_at hl 3 rfl) ?_
          refine lv_if_eq (tgt := 55) hx hb d_Go_slowestOf_43 (by decide) (fun hc => ?_) (fun hc => ?_)
          · have hf := op_t hc hf
            refine lv_iconst (v := 1) hx hb d_Go_slowestOf_55 (by decide) ?_
            refine lv_iload hx hb d_Go_slowestOf_56 (lv_at hl 5 rfl) ?_
            refine lv_ishl hx hb d_Go_slowestOf_58 ?_
            refine lv_istore_n (lv' := [(2, .int (1 <<< (v4 &&& 31))), (5, .ref a3), (0, .ref (ad 3)), (1, .int v1), (3, .int v3), (4, .int v4)]) hx hb d_Go_slowestOf_59 rfl hl (by decide) rfl (fun ls hl => ?_)
            refine lv_aload hx hb d_Go_slowestOf_60 (lv_at hl 1 rfl) ?_
            obtain ⟨h7, hf⟩ := op_if hf
            refine wg_3 hx hb hT hown hK (hp.1 a3 h7).1 (hp.1 a3 h7).2.1 fl_Go_109 (fun _ h9 => h9) d_Go_slowestOf_62 ?_
            refine lv_istore_n (lv' := [(3, .int (eD E a3 3)), (2, .int (1 <<< (v4 &&& 31))), (5, .ref a3), (0, .ref (ad 3)), (1, .int v1), (4, .int v4)]) hx hb d_Go_slowestOf_65 rfl hl (by decide) rfl (fun ls hl => ?_)
            obtain ⟨rfl, rfl⟩ := op_i2 hf
            exact K4 ls (lv_sub hl [3, 4, 1, 0, 5] rfl)
          · have hf := op_f hc hf
            refine lv_aload hx hb d_Go_slowestOf_46 (lv_at hl 0 rfl) ?_
            obtain ⟨h8, hf⟩ := op_if hf
            refine wg_3 hx hb hT hown hK (hp.1 a3 h8).1 (hp.1 a3 h8).2.1 fl_Go_109 (fun _ h9 => h9) d_Go_slowestOf_48 ?_
            refine lv_iload_n hx hb d_Go_slowestOf_51 rfl (lv_at hl 4 rfl) ?_
            refine lv_icmp_lt (tgt := 66) hx hb d_Go_slowestOf_52 (by decide) (fun hc => ?_) (fun hc => ?_)
            · have hf := op_t hc hf
              obtain ⟨rfl, rfl⟩ := op_i2 hf
              exact K4 ls (lv_sub hl [1, 2, 3, 4, 5] rfl)
            · have hf := op_f hc hf
              refine lv_iconst (v := 1) hx hb d_Go_slowestOf_55 (by decide) ?_
              refine lv_iload hx hb d_Go_slowestOf_56 (lv_at hl 5 rfl) ?_
              refine lv_ishl hx hb d_Go_slowestOf_58 ?_
              refine lv_istore_n (lv' := [(2, .int (1 <<< (v4 &&& 31))), (5, .ref a3), (0, .ref (ad 3)), (1, .int v1), (3, .int v3), (4, .int v4)]) hx hb d_Go_slowestOf_59 rfl hl (by decide) rfl (fun ls hl => ?_)
              refine lv_aload hx hb d_Go_slowestOf_60 (lv_at hl 1 rfl) ?_
              refine wg_3 hx hb hT hown hK (hp.1 a3 h8).1 (hp.1 a3 h8).2.1 fl_Go_109 (fun _ h9 => h9) d_Go_slowestOf_62 ?_
              refine lv_istore_n (lv' := [(3, .int (eD E a3 3)), (2, .int (1 <<< (v4 &&& 31))), (5, .ref a3), (0, .ref (ad 3)), (1, .int v1), (4, .int v4)]) hx hb d_Go_slowestOf_65 rfl hl (by decide) rfl (fun ls hl => ?_)
              obtain ⟨rfl, rfl⟩ := op_i2 hf
              exact K4 ls (lv_sub hl [3, 4, 1, 0, 5] rfl)
        · have hf := op_t hc hf
          refine lv_goto (tgt := 66) hx hb d_Go_slowestOf_39 (by decide) ?_
          obtain ⟨rfl, rfl⟩ := op_i2 hf
          exact K4 ls (lv_sub hl [1, 2, 3, 4, 5] rfl)
def p_Go_slowestOf (n : Nat) (E : PE) (F : Nat → Nat → Int32) (G : Nat → Nat → Int32) (P : Nat → Nat → Option Nat) (N : Nat → Nat) (v1 : Int32)  : Option (Int32) := (l_Go_slowestOf_7 n E F G P N v1 n 0 0 0).bind fun y9 => some y9
set_option maxHeartbeats 4000000 in
theorem c_Go_slowestOf (l : Launch) (n : Nat) (E : PE) (F : Nat → Nat → Int32) (G : Nat → Nat → Int32) (P : Nat → Nat → Option Nat) (N : Nat → Nat) (dC : Nat → ClassId) (dI : Nat → Nat → Nat) (ad : Nat → Nat) (cI cZ cW cJ : ClassId) (v1 : Int32)   : ROi l y_Go_slowestOf b_Go_slowestOf 6 (.int) (rL 5) (cB dC dI ad cI cZ cW cJ E F G P N) [.ref (ad 3), .int v1] (p_Go_slowestOf n E F G P N v1 ) := by
  refine en_roi (by decide) (Nat.le_of_ble_eq_true rfl) ?_
  intro z hf p e s m args below meth c ls hx hb hml hown hT hr hlk hB hl
  obtain ⟨hK, hP, hp, hi⟩ := hB
  have hl : lv_has ls 6 [(0, .ref (ad 3)), (1, .int v1)] := hl
  unfold p_Go_slowestOf at hf
  refine lv_iconst (v := 0) hx hb d_Go_slowestOf_0 (by decide) ?_
  refine lv_istore_n (lv' := [(2, .int 0), (0, .ref (ad 3)), (1, .int v1)]) hx hb d_Go_slowestOf_1 rfl hl (by decide) rfl (fun ls hl => ?_)
  refine lv_iconst (v := 0) hx hb d_Go_slowestOf_2 (by decide) ?_
  refine lv_istore_n (lv' := [(3, .int 0), (2, .int 0), (0, .ref (ad 3)), (1, .int v1)]) hx hb d_Go_slowestOf_3 rfl hl (by decide) rfl (fun ls hl => ?_)
  refine lv_iconst (v := 0) hx hb d_Go_slowestOf_4 (by decide) ?_
  refine lv_istore (lv' := [(4, .int 0), (3, .int 0), (2, .int 0), (0, .ref (ad 3)), (1, .int v1)]) hx hb d_Go_slowestOf_5 hl (by decide) rfl (fun ls hl => ?_)
  obtain ⟨y9, he, hf⟩ := op_bind hf
  refine wl_Go_slowestOf_7 hx hb hml hown hT hr hlk hK hP hp hi n v1 n 0 0 0 _ he (fun ls hl => ?_) ls (lv_sub hl [3, 4, 2, 1, 0] rfl)
  refine lv_iload_n hx hb d_Go_slowestOf_72 rfl (lv_at hl 0 rfl) ?_
  obtain rfl := op_i1 hf
  exact rt_si hx hb hr hlk rfl d_Go_slowestOf_73
theorem hd_Go_overByRule : y_Go_overByRule.cls ≠ "java/lang/invoke/MethodHandle" ∧ y_Go_overByRule.cls ≠ "java/lang/invoke/VarHandle" ∧ (parseMethodDescriptor y_Go_overByRule.desc).map (fun d => d.parameters.length) = some 2 := by decide +kernel
theorem d_Go_overByRule_0 : decode b_Go_overByRule 0 = .ok (.iload_n 1, 1) := by decide +kernel
theorem d_Go_overByRule_1 : decode b_Go_overByRule 1 = .ok (.iconst 2, 1) := by decide +kernel
theorem d_Go_overByRule_2 : decode b_Go_overByRule 2 = .ok (.if_icmp .ne 24, 3) := by decide +kernel
theorem d_Go_overByRule_5 : decode b_Go_overByRule 5 = .ok (.iload_n 2, 1) := by decide +kernel
theorem d_Go_overByRule_6 : decode b_Go_overByRule 6 = .ok (.iload_n 2, 1) := by decide +kernel
theorem d_Go_overByRule_7 : decode b_Go_overByRule 7 = .ok (.ineg, 1) := by decide +kernel
theorem d_Go_overByRule_8 : decode b_Go_overByRule 8 = .ok (.iand, 1) := by decide +kernel
theorem d_Go_overByRule_9 : decode b_Go_overByRule 9 = .ok (.istore_n 3, 1) := by decide +kernel
theorem d_Go_overByRule_10 : decode b_Go_overByRule 10 = .ok (.iload_n 2, 1) := by decide +kernel
theorem d_Go_overByRule_11 : decode b_Go_overByRule 11 = .ok (.iload_n 3, 1) := by decide +kernel
theorem d_Go_overByRule_12 : decode b_Go_overByRule 12 = .ok (.iconst (-1), 1) := by decide +kernel
theorem d_Go_overByRule_13 : decode b_Go_overByRule 13 = .ok (.ixor, 1) := by decide +kernel
theorem d_Go_overByRule_14 : decode b_Go_overByRule 14 = .ok (.iand, 1) := by decide +kernel
theorem d_Go_overByRule_15 : decode b_Go_overByRule 15 = .ok (.istore 4, 2) := by decide +kernel
theorem d_Go_overByRule_17 : decode b_Go_overByRule 17 = .ok (.iload_n 3, 1) := by decide +kernel
theorem d_Go_overByRule_18 : decode b_Go_overByRule 18 = .ok (.iload 4, 2) := by decide +kernel
theorem d_Go_overByRule_20 : decode b_Go_overByRule 20 = .ok (.iload 4, 2) := by decide +kernel
theorem d_Go_overByRule_22 : decode b_Go_overByRule 22 = .ok (.ineg, 1) := by decide +kernel
theorem d_Go_overByRule_23 : decode b_Go_overByRule 23 = .ok (.iand, 1) := by decide +kernel
theorem d_Go_overByRule_24 : decode b_Go_overByRule 24 = .ok (.ior, 1) := by decide +kernel
theorem d_Go_overByRule_25 : decode b_Go_overByRule 25 = .ok (.ireturn, 1) := by decide +kernel
theorem d_Go_overByRule_26 : decode b_Go_overByRule 26 = .ok (.iload_n 1, 1) := by decide +kernel
theorem d_Go_overByRule_27 : decode b_Go_overByRule 27 = .ok (.iconst 1, 1) := by decide +kernel
theorem d_Go_overByRule_28 : decode b_Go_overByRule 28 = .ok (.if_icmp .ne 91, 3) := by decide +kernel
theorem d_Go_overByRule_31 : decode b_Go_overByRule 31 = .ok (.aload_n 0, 1) := by decide +kernel
theorem d_Go_overByRule_32 : decode b_Go_overByRule 32 = .ok (.aload_n 0, 1) := by decide +kernel
theorem d_Go_overByRule_33 : decode b_Go_overByRule 33 = .ok (.getfield 50, 3) := by decide +kernel
theorem d_Go_overByRule_36 : decode b_Go_overByRule 36 = .ok (.invokevirtual 130, 3) := by decide +kernel
theorem d_Go_overByRule_39 : decode b_Go_overByRule 39 = .ok (.istore_n 3, 1) := by decide +kernel
theorem d_Go_overByRule_40 : decode b_Go_overByRule 40 = .ok (.iload_n 3, 1) := by decide +kernel
theorem d_Go_overByRule_41 : decode b_Go_overByRule 41 = .ok (.aload_n 0, 1) := by decide +kernel
theorem d_Go_overByRule_42 : decode b_Go_overByRule 42 = .ok (.aload_n 0, 1) := by decide +kernel
theorem d_Go_overByRule_43 : decode b_Go_overByRule 43 = .ok (.getfield 50, 3) := by decide +kernel
theorem d_Go_overByRule_46 : decode b_Go_overByRule 46 = .ok (.iload_n 3, 1) := by decide +kernel
theorem d_Go_overByRule_47 : decode b_Go_overByRule 47 = .ok (.iconst (-1), 1) := by decide +kernel
theorem d_Go_overByRule_48 : decode b_Go_overByRule 48 = .ok (.ixor, 1) := by decide +kernel
theorem d_Go_overByRule_49 : decode b_Go_overByRule 49 = .ok (.iand, 1) := by decide +kernel
theorem d_Go_overByRule_50 : decode b_Go_overByRule 50 = .ok (.invokevirtual 130, 3) := by decide +kernel
theorem d_Go_overByRule_53 : decode b_Go_overByRule 53 = .ok (.ior, 1) := by decide +kernel
theorem d_Go_overByRule_54 : decode b_Go_overByRule 54 = .ok (.istore 4, 2) := by decide +kernel
theorem d_Go_overByRule_56 : decode b_Go_overByRule 56 = .ok (.iload_n 2, 1) := by decide +kernel
theorem d_Go_overByRule_57 : decode b_Go_overByRule 57 = .ok (.invokestatic 89, 3) := by decide +kernel
theorem d_Go_overByRule_60 : decode b_Go_overByRule 60 = .ok (.istore 5, 2) := by decide +kernel
theorem d_Go_overByRule_62 : decode b_Go_overByRule 62 = .ok (.iload_n 2, 1) := by decide +kernel
theorem d_Go_overByRule_63 : decode b_Go_overByRule 63 = .ok (.iload 4, 2) := by decide +kernel
theorem d_Go_overByRule_65 : decode b_Go_overByRule 65 = .ok (.iand, 1) := by decide +kernel
theorem d_Go_overByRule_66 : decode b_Go_overByRule 66 = .ok (.invokestatic 89, 3) := by decide +kernel
theorem d_Go_overByRule_69 : decode b_Go_overByRule 69 = .ok (.istore 6, 2) := by decide +kernel
theorem d_Go_overByRule_71 : decode b_Go_overByRule 71 = .ok (.iload 5, 2) := by decide +kernel
theorem d_Go_overByRule_73 : decode b_Go_overByRule 73 = .ok (.iconst 4, 1) := by decide +kernel
theorem d_Go_overByRule_74 : decode b_Go_overByRule 74 = .ok (.if_icmp .lt 12, 3) := by decide +kernel
theorem d_Go_overByRule_77 : decode b_Go_overByRule 77 = .ok (.iload 6, 2) := by decide +kernel
theorem d_Go_overByRule_79 : decode b_Go_overByRule 79 = .ok (.iconst 2, 1) := by decide +kernel
theorem d_Go_overByRule_80 : decode b_Go_overByRule 80 = .ok (.if_icmp .ne 6, 3) := by decide +kernel
theorem d_Go_overByRule_83 : decode b_Go_overByRule 83 = .ok (.iload 4, 2) := by decide +kernel
theorem d_Go_overByRule_85 : decode b_Go_overByRule 85 = .ok (.ireturn, 1) := by decide +kernel
theorem d_Go_overByRule_86 : decode b_Go_overByRule 86 = .ok (.iload 5, 2) := by decide +kernel
theorem d_Go_overByRule_88 : decode b_Go_overByRule 88 = .ok (.iconst 3, 1) := by decide +kernel
theorem d_Go_overByRule_89 : decode b_Go_overByRule 89 = .ok (.if_icmp .lt 30, 3) := by decide +kernel
theorem d_Go_overByRule_92 : decode b_Go_overByRule 92 = .ok (.iload 6, 2) := by decide +kernel
theorem d_Go_overByRule_94 : decode b_Go_overByRule 94 = .ok (.iconst 1, 1) := by decide +kernel
theorem d_Go_overByRule_95 : decode b_Go_overByRule 95 = .ok (.if_icmp .ne 24, 3) := by decide +kernel
theorem d_Go_overByRule_98 : decode b_Go_overByRule 98 = .ok (.aload_n 0, 1) := by decide +kernel
theorem d_Go_overByRule_99 : decode b_Go_overByRule 99 = .ok (.iload_n 2, 1) := by decide +kernel
theorem d_Go_overByRule_100 : decode b_Go_overByRule 100 = .ok (.invokevirtual 142, 3) := by decide +kernel
theorem d_Go_overByRule_103 : decode b_Go_overByRule 103 = .ok (.istore 7, 2) := by decide +kernel
theorem d_Go_overByRule_105 : decode b_Go_overByRule 105 = .ok (.iload 7, 2) := by decide +kernel
theorem d_Go_overByRule_107 : decode b_Go_overByRule 107 = .ok (.aload_n 0, 1) := by decide +kernel
theorem d_Go_overByRule_108 : decode b_Go_overByRule 108 = .ok (.iload_n 2, 1) := by decide +kernel
theorem d_Go_overByRule_109 : decode b_Go_overByRule 109 = .ok (.iload 7, 2) := by decide +kernel
theorem d_Go_overByRule_111 : decode b_Go_overByRule 111 = .ok (.iconst (-1), 1) := by decide +kernel
theorem d_Go_overByRule_112 : decode b_Go_overByRule 112 = .ok (.ixor, 1) := by decide +kernel
theorem d_Go_overByRule_113 : decode b_Go_overByRule 113 = .ok (.iand, 1) := by decide +kernel
theorem d_Go_overByRule_114 : decode b_Go_overByRule 114 = .ok (.invokevirtual 142, 3) := by decide +kernel
theorem d_Go_overByRule_117 : decode b_Go_overByRule 117 = .ok (.ior, 1) := by decide +kernel
theorem d_Go_overByRule_118 : decode b_Go_overByRule 118 = .ok (.ireturn, 1) := by decide +kernel
theorem d_Go_overByRule_119 : decode b_Go_overByRule 119 = .ok (.aload_n 0, 1) := by decide +kernel
theorem d_Go_overByRule_120 : decode b_Go_overByRule 120 = .ok (.iload_n 2, 1) := by decide +kernel
theorem d_Go_overByRule_121 : decode b_Go_overByRule 121 = .ok (.invokevirtual 130, 3) := by decide +kernel
theorem d_Go_overByRule_124 : decode b_Go_overByRule 124 = .ok (.aload_n 0, 1) := by decide +kernel
theorem d_Go_overByRule_125 : decode b_Go_overByRule 125 = .ok (.iload_n 2, 1) := by decide +kernel
theorem d_Go_overByRule_126 : decode b_Go_overByRule 126 = .ok (.invokevirtual 142, 3) := by decide +kernel
theorem d_Go_overByRule_129 : decode b_Go_overByRule 129 = .ok (.ior, 1) := by decide +kernel
theorem d_Go_overByRule_130 : decode b_Go_overByRule 130 = .ok (.ireturn, 1) := by decide +kernel
def p_Go_overByRule (n : Nat) (E : PE) (F : Nat → Nat → Int32) (G : Nat → Nat → Int32) (P : Nat → Nat → Option Nat) (N : Nat → Nat) (v1 : Int32) (v2 : Int32)  : Option (Int32) := (if v1 = 2 then some (((v2 &&& (-v2)) ||| ((v2 &&& ((v2 &&& (-v2)) ^^^ (-1))) &&& (-(v2 &&& ((v2 &&& (-v2)) ^^^ (-1))))))) else (if v1 = 1 then (p_Go_quickestOf n E F G P N (F 3 2)).bind fun x6 => (p_Go_quickestOf n E F G P N (((F 3 2) &&& (x6 ^^^ (-1))))).bind fun x8 => (p_Integer_bitCount n v2).bind fun x10 => (p_Integer_bitCount n (v2 &&& (x6 ||| x8))).bind fun x12 => (if x10 < 4 then (if x10 < 3 then (p_Go_quickestOf n E F G P N v2).bind fun x14 => (p_Go_slowestOf n E F G P N v2).bind fun x16 => some (x14 ||| x16) else (if x12 = 1 then (p_Go_slowestOf n E F G P N v2).bind fun x22 => (p_Go_slowestOf n E F G P N (v2 &&& (x22 ^^^ (-1)))).bind fun x24 => some (x22 ||| x24) else (p_Go_quickestOf n E F G P N v2).bind fun x18 => (p_Go_slowestOf n E F G P N v2).bind fun x20 => some (x18 ||| x20))) else (if x12 = 2 then some (x6 ||| x8) else (if x10 < 3 then (p_Go_quickestOf n E F G P N v2).bind fun x26 => (p_Go_slowestOf n E F G P N v2).bind fun x28 => some (x26 ||| x28) else (if x12 = 1 then (p_Go_slowestOf n E F G P N v2).bind fun x34 => (p_Go_slowestOf n E F G P N (v2 &&& (x34 ^^^ (-1)))).bind fun x36 => some (x34 ||| x36) else (p_Go_quickestOf n E F G P N v2).bind fun x30 => (p_Go_slowestOf n E F G P N v2).bind fun x32 => some (x30 ||| x32))))) else (p_Go_quickestOf n E F G P N v2).bind fun x2 => (p_Go_slowestOf n E F G P N v2).bind fun x4 => some (x2 ||| x4)))
set_option maxHeartbeats 4000000 in
theorem c_Go_overByRule (l : Launch) (n : Nat) (E : PE) (F : Nat → Nat → Int32) (G : Nat → Nat → Int32) (P : Nat → Nat → Option Nat) (N : Nat → Nat) (dC : Nat → ClassId) (dI : Nat → Nat → Nat) (ad : Nat → Nat) (cI cZ cW cJ : ClassId) (v1 : Int32) (v2 : Int32)   : ROi l y_Go_overByRule b_Go_overByRule 8 (.int) (rL 6) (cB dC dI ad cI cZ cW cJ E F G P N) [.ref (ad 3), .int v1, .int v2] (p_Go_overByRule n E F G P N v1 v2 ) := by
  refine en_roi (by decide) (Nat.le_of_ble_eq_true rfl) ?_
  intro z hf p e s m args below meth c ls hx hb hml hown hT hr hlk hB hl
  obtain ⟨hK, hP, hp, hi⟩ := hB
  have hl : lv_has ls 8 [(0, .ref (ad 3)), (1, .int v1), (2, .int v2)] := hl
  unfold p_Go_overByRule at hf
  refine lv_iload_n hx hb d_Go_overByRule_0 rfl (lv_at hl 1 rfl) ?_
  refine lv_iconst (v := 2) hx hb d_Go_overByRule_1 (by decide) ?_
  refine lv_icmp_ne (tgt := 26) hx hb d_Go_overByRule_2 (by decide) (fun hc => ?_) (fun hc => ?_)
  · have hf := op_f hc hf
    refine lv_iload_n hx hb d_Go_overByRule_26 rfl (lv_at hl 1 rfl) ?_
    refine lv_iconst (v := 1) hx hb d_Go_overByRule_27 (by decide) ?_
    refine lv_icmp_ne (tgt := 119) hx hb d_Go_overByRule_28 (by decide) (fun hc => ?_) (fun hc => ?_)
    · have hf := op_f hc hf
      refine lv_aload_n hx hb d_Go_overByRule_119 rfl (lv_at hl 0 rfl) ?_
      refine lv_iload_n hx hb d_Go_overByRule_120 rfl (lv_at hl 2 rfl) ?_
      obtain ⟨x2, hc1, hf⟩ := op_bind hf
      refine kr_i (C := R_Go) (b0 := ad 3) (rest := []) hx hb hml hown hT cB_bl (cB_to hK hP hp hi) (va_recv hK hP (ci := 1) (q0 := 3) rfl rfl) (c_Go_quickestOf l n E F G P N dC dI ad cI cZ cW cJ v2 _ hc1) (cbW 1 hT cd_Go_quickestOf rfl rfl ini_Go ml_Go_130 hd_Go_quickestOf ⟨Nat.le_of_ble_eq_true rfl, Nat.le_of_ble_eq_true rfl⟩) im_Go_quickestOf sp_Go_quickestOf rfl hl.1 rfl (Nat.le_of_ble_eq_true rfl) d_Go_overByRule_121 ⟨Nat.zero_le _, Nat.zero_le _⟩ ?_
      refine lv_aload_n hx hb d_Go_overByRule_124 rfl (lv_at hl 0 rfl) ?_
      refine lv_iload_n hx hb d_Go_overByRule_125 rfl (lv_at hl 2 rfl) ?_
      obtain ⟨x4, hc3, hf⟩ := op_bind hf
      refine kr_i (C := R_Go) (b0 := ad 3) (rest := [.int x2]) hx hb hml hown hT cB_bl (cB_to hK hP hp hi) (va_recv hK hP (ci := 1) (q0 := 3) rfl rfl) (c_Go_slowestOf l n E F G P N dC dI ad cI cZ cW cJ v2 _ hc3) (cbW 1 hT cd_Go_slowestOf rfl rfl ini_Go ml_Go_142 hd_Go_slowestOf ⟨Nat.le_of_ble_eq_true rfl, Nat.le_of_ble_eq_true rfl⟩) im_Go_slowestOf sp_Go_slowestOf rfl hl.1 rfl (Nat.le_of_ble_eq_true rfl) d_Go_overByRule_126 ⟨Nat.zero_le _, Nat.zero_le _⟩ ?_
      refine lv_ior hx hb d_Go_overByRule_129 ?_
      obtain rfl := op_i1 hf
      exact rt_si hx hb hr hlk rfl d_Go_overByRule_130
    · have hf := op_t hc hf
      refine lv_aload_n hx hb d_Go_overByRule_31 rfl (lv_at hl 0 rfl) ?_
      refine lv_aload_n hx hb d_Go_overByRule_32 rfl (lv_at hl 0 rfl) ?_
      refine cg_3_2 hx hb hT hown hK hP fl_Go_50 d_Go_overByRule_33 ?_
      obtain ⟨x6, hc5, hf⟩ := op_bind hf
      refine kr_i (C := R_Go) (b0 := ad 3) (rest := []) hx hb hml hown hT cB_bl (cB_to hK hP hp hi) (va_recv hK hP (ci := 1) (q0 := 3) rfl rfl) (c_Go_quickestOf l n E F G P N dC dI ad cI cZ cW cJ (F 3 2) _ hc5) (cbW 1 hT cd_Go_quickestOf rfl rfl ini_Go ml_Go_130 hd_Go_quickestOf ⟨Nat.le_of_ble_eq_true rfl, Nat.le_of_ble_eq_true rfl⟩) im_Go_quickestOf sp_Go_quickestOf rfl hl.1 rfl (Nat.le_of_ble_eq_true rfl) d_Go_overByRule_36 ⟨Nat.zero_le _, Nat.zero_le _⟩ ?_
      refine lv_istore_n (lv' := [(3, .int x6), (0, .ref (ad 3)), (1, .int v1), (2, .int v2)]) hx hb d_Go_overByRule_39 rfl hl (by decide) rfl (fun ls hl => ?_)
      refine lv_iload_n hx hb d_Go_overByRule_40 rfl (lv_at hl 0 rfl) ?_
      refine lv_aload_n hx hb d_Go_overByRule_41 rfl (lv_at hl 1 rfl) ?_
      refine lv_aload_n hx hb d_Go_overByRule_42 rfl (lv_at hl 1 rfl) ?_
      refine cg_3_2 hx hb hT hown hK hP fl_Go_50 d_Go_overByRule_43 ?_
      refine lv_iload_n hx hb d_Go_overByRule_46 rfl (lv_at hl 0 rfl) ?_
      refine lv_iconst (v := (-1)) hx hb d_Go_overByRule_47 (by decide) ?_
      refine lv_ixor hx hb d_Go_overByRule_48 ?_
      refine lv_iand hx hb d_Go_overByRule_49 ?_
      obtain ⟨x8, hc7, hf⟩ := op_bind hf
      refine kr_i (C := R_Go) (b0 := ad 3) (rest := [.int x6]) hx hb hml hown hT cB_bl (cB_to hK hP hp hi) (va_recv hK hP (ci := 1) (q0 := 3) rfl rfl) (c_Go_quickestOf l n E F G P N dC dI ad cI cZ cW cJ (((F 3 2) &&& (x6 ^^^ (-1)))) _ hc7) (cbW 1 hT cd_Go_quickestOf rfl rfl ini_Go ml_Go_130 hd_Go_quickestOf ⟨Nat.le_of_ble_eq_true rfl, Nat.le_of_ble_eq_true rfl⟩) im_Go_quickestOf sp_Go_quickestOf rfl hl.1 rfl (Nat.le_of_ble_eq_true rfl) d_Go_overByRule_50 ⟨Nat.zero_le _, Nat.zero_le _⟩ ?_
      refine lv_ior hx hb d_Go_overByRule_53 ?_
      refine lv_istore (lv' := [(4, .int (x6 ||| x8)), (3, .int x6), (0, .ref (ad 3)), (1, .int v1), (2, .int v2)]) hx hb d_Go_overByRule_54 hl (by decide) rfl (fun ls hl => ?_)
      refine lv_iload_n hx hb d_Go_overByRule_56 rfl (lv_at hl 4 rfl) ?_
      obtain ⟨x10, hc9, hf⟩ := op_bind hf
      refine ks_i (rest := []) hx hb hml hown hT (c_Integer_bitCount l n v2 _ hc9) (cbW 1 hT cd_Integer_bitCount rfl rfl ini_Integer ml_Go_89 hd_Integer_bitCount ⟨Nat.le_of_ble_eq_true rfl, Nat.le_of_ble_eq_true rfl⟩) sm_Integer_bitCount rfl hl.1 rfl (Nat.le_of_ble_eq_true rfl) d_Go_overByRule_57 ⟨Nat.zero_le _, Nat.zero_le _⟩ ?_
      refine lv_istore (lv' := [(5, .int x10), (4, .int (x6 ||| x8)), (3, .int x6), (0, .ref (ad 3)), (1, .int v1), (2, .int v2)]) hx hb d_Go_overByRule_60 hl (by decide) rfl (fun ls hl => ?_)
      refine lv_iload_n hx hb d_Go_overByRule_62 rfl (lv_at hl 5 rfl) ?_
      refine lv_iload hx hb d_Go_overByRule_63 (lv_at hl 1 rfl) ?_
      refine lv_iand hx hb d_Go_overByRule_65 ?_
      obtain ⟨x12, hc11, hf⟩ := op_bind hf
      refine ks_i (rest := []) hx hb hml hown hT (c_Integer_bitCount l n (v2 &&& (x6 ||| x8)) _ hc11) (cbW 1 hT cd_Integer_bitCount rfl rfl ini_Integer ml_Go_89 hd_Integer_bitCount ⟨Nat.le_of_ble_eq_true rfl, Nat.le_of_ble_eq_true rfl⟩) sm_Integer_bitCount rfl hl.1 rfl (Nat.le_of_ble_eq_true rfl) d_Go_overByRule_66 ⟨Nat.zero_le _, Nat.zero_le _⟩ ?_
      refine lv_istore (lv' := [(6, .int x12), (5, .int x10), (4, .int (x6 ||| x8)), (3, .int x6), (0, .ref (ad 3)), (1, .int v1), (2, .int v2)]) hx hb d_Go_overByRule_69 hl (by decide) rfl (fun ls hl => ?_)
      refine lv_iload hx hb d_Go_overByRule_71 (lv_at hl 1 rfl) ?_
      refine lv_iconst (v := 4) hx hb d_Go_overByRule_73 (by decide) ?_
      refine lv_icmp_lt (tgt := 86) hx hb d_Go_overByRule_74 (by decide) (fun hc => ?_) (fun hc => ?_)
      · have hf := op_t hc hf
        refine lv_iload hx hb d_Go_overByRule_86 (lv_at hl 1 rfl) ?_
        refine lv_iconst (v := 3) hx hb d_Go_overByRule_88 (by decide) ?_
        refine lv_icmp_lt (tgt := 119) hx hb d_Go_overByRule_89 (by decide) (fun hc => ?_) (fun hc => ?_)
        · have hf := op_t hc hf
          refine lv_aload_n hx hb d_Go_overByRule_119 rfl (lv_at hl 4 rfl) ?_
          refine lv_iload_n hx hb d_Go_overByRule_120 rfl (lv_at hl 6 rfl) ?_
          obtain ⟨x14, hc13, hf⟩ := op_bind hf
          refine kr_i (C := R_Go) (b0 := ad 3) (rest := []) hx hb hml hown hT cB_bl (cB_to hK hP hp hi) (va_recv hK hP (ci := 1) (q0 := 3) rfl rfl) (c_Go_quickestOf l n E F G P N dC dI ad cI cZ cW cJ v2 _ hc13) (cbW 1 hT cd_Go_quickestOf rfl rfl ini_Go ml_Go_130 hd_Go_quickestOf ⟨Nat.le_of_ble_eq_true rfl, Nat.le_of_ble_eq_true rfl⟩) im_Go_quickestOf sp_Go_quickestOf rfl hl.1 rfl (Nat.le_of_ble_eq_true rfl) d_Go_overByRule_121 ⟨Nat.zero_le _, Nat.zero_le _⟩ ?_
          refine lv_aload_n hx hb d_Go_overByRule_124 rfl (lv_at hl 4 rfl) ?_
          refine lv_iload_n hx hb d_Go_overByRule_125 rfl (lv_at hl 6 rfl) ?_
          obtain ⟨x16, hc15, hf⟩ := op_bind hf
          refine kr_i (C := R_Go) (b0 := ad 3) (rest := [.int x14]) hx hb hml hown hT cB_bl (cB_to hK hP hp hi) (va_recv hK hP (ci := 1) (q0 := 3) rfl rfl) (c_Go_slowestOf l n E F G P N dC dI ad cI cZ cW cJ v2 _ hc15) (cbW 1 hT cd_Go_slowestOf rfl rfl ini_Go ml_Go_142 hd_Go_slowestOf ⟨Nat.le_of_ble_eq_true rfl, Nat.le_of_ble_eq_true rfl⟩) im_Go_slowestOf sp_Go_slowestOf rfl hl.1 rfl (Nat.le_of_ble_eq_true rfl) d_Go_overByRule_126 ⟨Nat.zero_le _, Nat.zero_le _⟩ ?_
          refine lv_ior hx hb d_Go_overByRule_129 ?_
          obtain rfl := op_i1 hf
          exact rt_si hx hb hr hlk rfl d_Go_overByRule_130
        · have hf := op_f hc hf
          refine lv_iload hx hb d_Go_overByRule_92 (lv_at hl 0 rfl) ?_
          refine lv_iconst (v := 1) hx hb d_Go_overByRule_94 (by decide) ?_
          refine lv_icmp_ne (tgt := 119) hx hb d_Go_overByRule_95 (by decide) (fun hc => ?_) (fun hc => ?_)
          · have hf := op_f hc hf
            refine lv_aload_n hx hb d_Go_overByRule_119 rfl (lv_at hl 4 rfl) ?_
            refine lv_iload_n hx hb d_Go_overByRule_120 rfl (lv_at hl 6 rfl) ?_
            obtain ⟨x18, hc17, hf⟩ := op_bind hf
            refine kr_i (C := R_Go) (b0 := ad 3) (rest := []) hx hb hml hown hT cB_bl (cB_to hK hP hp hi) (va_recv hK hP (ci := 1) (q0 := 3) rfl rfl) (c_Go_quickestOf l n E F G P N dC dI ad cI cZ cW cJ v2 _ hc17) (cbW 1 hT cd_Go_quickestOf rfl rfl ini_Go ml_Go_130 hd_Go_quickestOf ⟨Nat.le_of_ble_eq_true rfl, Nat.le_of_ble_eq_true rfl⟩) im_Go_quickestOf sp_Go_quickestOf rfl hl.1 rfl (Nat.le_of_ble_eq_true rfl) d_Go_overByRule_121 ⟨Nat.zero_le _, Nat.zero_le _⟩ ?_
            refine lv_aload_n hx hb d_Go_overByRule_124 rfl (lv_at hl 4 rfl) ?_
            refine lv_iload_n hx hb d_Go_overByRule_125 rfl (lv_at hl 6 rfl) ?_
            obtain ⟨x20, hc19, hf⟩ := op_bind hf
            refine kr_i (C := R_Go) (b0 := ad 3) (rest := [.int x18]) hx hb hml hown hT cB_bl (cB_to hK hP hp hi) (va_recv hK hP (ci := 1) (q0 := 3) rfl rfl) (c_Go_slowestOf l n E F G P N dC dI ad cI cZ cW cJ v2 _ hc19) (cbW 1 hT cd_Go_slowestOf rfl rfl ini_Go ml_Go_142 hd_Go_slowestOf ⟨Nat.le_of_ble_eq_true rfl, Nat.le_of_ble_eq_true rfl⟩) im_Go_slowestOf sp_Go_slowestOf rfl hl.1 rfl (Nat.le_of_ble_eq_true rfl) d_Go_overByRule_126 ⟨Nat.zero_le _, Nat.zero_le _⟩ ?_
            refine lv_ior hx hb d_Go_overByRule_129 ?_
            obtain rfl := op_i1 hf
            exact rt_si hx hb hr hlk rfl d_Go_overByRule_130
          · have hf := op_t hc hf
            refine lv_aload_n hx hb d_Go_overByRule_98 rfl (lv_at hl 4 rfl) ?_
            refine lv_iload_n hx hb d_Go_overByRule_99 rfl (lv_at hl 6 rfl) ?_
            obtain ⟨x22, hc21, hf⟩ := op_bind hf
            refine kr_i (C := R_Go) (b0 := ad 3) (rest := []) hx hb hml hown hT cB_bl (cB_to hK hP hp hi) (va_recv hK hP (ci := 1) (q0 := 3) rfl rfl) (c_Go_slowestOf l n E F G P N dC dI ad cI cZ cW cJ v2 _ hc21) (cbW 1 hT cd_Go_slowestOf rfl rfl ini_Go ml_Go_142 hd_Go_slowestOf ⟨Nat.le_of_ble_eq_true rfl, Nat.le_of_ble_eq_true rfl⟩) im_Go_slowestOf sp_Go_slowestOf rfl hl.1 rfl (Nat.le_of_ble_eq_true rfl) d_Go_overByRule_100 ⟨Nat.zero_le _, Nat.zero_le _⟩ ?_
            refine lv_istore (lv' := [(7, .int x22), (6, .int x12), (5, .int x10), (4, .int (x6 ||| x8)), (3, .int x6), (0, .ref (ad 3)), (1, .int v1), (2, .int v2)]) hx hb d_Go_overByRule_103 hl (by decide) rfl (fun ls hl => ?_)
            refine lv_iload hx hb d_Go_overByRule_105 (lv_at hl 0 rfl) ?_
            refine lv_aload_n hx hb d_Go_overByRule_107 rfl (lv_at hl 5 rfl) ?_
            refine lv_iload_n hx hb d_Go_overByRule_108 rfl (lv_at hl 7 rfl) ?_
            refine lv_iload hx hb d_Go_overByRule_109 (lv_at hl 0 rfl) ?_
            refine lv_iconst (v := (-1)) hx hb d_Go_overByRule_111 (by decide) ?_
            refine lv_ixor hx hb d_Go_overByRule_112 ?_
            refine lv_iand hx hb d_Go_overByRule_113 ?_
            obtain ⟨x24, hc23, hf⟩ := op_bind hf
            refine kr_i (C := R_Go) (b0 := ad 3) (rest := [.int x22]) hx hb hml hown hT cB_bl (cB_to hK hP hp hi) (va_recv hK hP (ci := 1) (q0 := 3) rfl rfl) (c_Go_slowestOf l n E F G P N dC dI ad cI cZ cW cJ (v2 &&& (x22 ^^^ (-1))) _ hc23) (cbW 1 hT cd_Go_slowestOf rfl rfl ini_Go ml_Go_142 hd_Go_slowestOf ⟨Nat.le_of_ble_eq_true rfl, Nat.le_of_ble_eq_true rfl⟩) im_Go_slowestOf sp_Go_slowestOf rfl hl.1 rfl (Nat.le_of_ble_eq_true rfl) d_Go_overByRule_114 ⟨Nat.zero_le _, Nat.zero_le _⟩ ?_
            refine lv_ior hx hb d_Go_overByRule_117 ?_
            obtain rfl := op_i1 hf
            exact rt_si hx hb hr hlk rfl d_Go_overByRule_118
      · have hf := op_f hc hf
        refine lv_iload hx hb d_Go_overByRule_77 (lv_at hl 0 rfl) ?_
        refine lv_iconst (v := 2) hx hb d_Go_overByRule_79 (by decide) ?_
        refine lv_icmp_ne (tgt := 86) hx hb d_Go_overByRule_80 (by decide) (fun hc => ?_) (fun hc => ?_)
        · have hf := op_f hc hf
          refine lv_iload hx hb d_Go_overByRule_86 (lv_at hl 1 rfl) ?_
          refine lv_iconst (v := 3) hx hb d_Go_overByRule_88 (by decide) ?_
          refine lv_icmp_lt (tgt := 119) hx hb d_Go_overByRule_89 (by decide) (fun hc => ?_) (fun hc => ?_)
          · have hf := op_t hc hf
            refine lv_aload_n hx hb d_Go_overByRule_119 rfl (lv_at hl 4 rfl) ?_
            refine lv_iload_n hx hb d_Go_overByRule_120 rfl (lv_at hl 6 rfl) ?_
            obtain ⟨x26, hc25, hf⟩ := op_bind hf
            refine kr_i (C := R_Go) (b0 := ad 3) (rest := []) hx hb hml hown hT cB_bl (cB_to hK hP hp hi) (va_recv hK hP (ci := 1) (q0 := 3) rfl rfl) (c_Go_quickestOf l n E F G P N dC dI ad cI cZ cW cJ v2 _ hc25) (cbW 1 hT cd_Go_quickestOf rfl rfl ini_Go ml_Go_130 hd_Go_quickestOf ⟨Nat.le_of_ble_eq_true rfl, Nat.le_of_ble_eq_true rfl⟩) im_Go_quickestOf sp_Go_quickestOf rfl hl.1 rfl (Nat.le_of_ble_eq_true rfl) d_Go_overByRule_121 ⟨Nat.zero_le _, Nat.zero_le _⟩ ?_
            refine lv_aload_n hx hb d_Go_overByRule_124 rfl (lv_at hl 4 rfl) ?_
            refine lv_iload_n hx hb d_Go_overByRule_125 rfl (lv_at hl 6 rfl) ?_
            obtain ⟨x28, hc27, hf⟩ := op_bind hf
            refine kr_i (C := R_Go) (b0 := ad 3) (rest := [.int x26]) hx hb hml hown hT cB_bl (cB_to hK hP hp hi) (va_recv hK hP (ci := 1) (q0 := 3) rfl rfl) (c_Go_slowestOf l n E F G P N dC dI ad cI cZ cW cJ v2 _ hc27) (cbW 1 hT cd_Go_slowestOf rfl rfl ini_Go ml_Go_142 hd_Go_slowestOf ⟨Nat.le_of_ble_eq_true rfl, Nat.le_of_ble_eq_true rfl⟩) im_Go_slowestOf sp_Go_slowestOf rfl hl.1 rfl (Nat.le_of_ble_eq_true rfl) d_Go_overByRule_126 ⟨Nat.zero_le _, Nat.zero_le _⟩ ?_
            refine lv_ior hx hb d_Go_overByRule_129 ?_
            obtain rfl := op_i1 hf
            exact rt_si hx hb hr hlk rfl d_Go_overByRule_130
          · have hf := op_f hc hf
            refine lv_iload hx hb d_Go_overByRule_92 (lv_at hl 0 rfl) ?_
            refine lv_iconst (v := 1) hx hb d_Go_overByRule_94 (by decide) ?_
            refine lv_icmp_ne (tgt := 119) hx hb d_Go_overByRule_95 (by decide) (fun hc => ?_) (fun hc => ?_)
            · have hf := op_f hc hf
              refine lv_aload_n hx hb d_Go_overByRule_119 rfl (lv_at hl 4 rfl) ?_
              refine lv_iload_n hx hb d_Go_overByRule_120 rfl (lv_at hl 6 rfl) ?_
              obtain ⟨x30, hc29, hf⟩ := op_bind hf
              refine kr_i (C := R_Go) (b0 := ad 3) (rest := []) hx hb hml hown hT cB_bl (cB_to hK hP hp hi) (va_recv hK hP (ci := 1) (q0 := 3) rfl rfl) (c_Go_quickestOf l n E F G P N dC dI ad cI cZ cW cJ v2 _ hc29) (cbW 1 hT cd_Go_quickestOf rfl rfl ini_Go ml_Go_130 hd_Go_quickestOf ⟨Nat.le_of_ble_eq_true rfl, Nat.le_of_ble_eq_true rfl⟩) im_Go_quickestOf sp_Go_quickestOf rfl hl.1 rfl (Nat.le_of_ble_eq_true rfl) d_Go_overByRule_121 ⟨Nat.zero_le _, Nat.zero_le _⟩ ?_
              refine lv_aload_n hx hb d_Go_overByRule_124 rfl (lv_at hl 4 rfl) ?_
              refine lv_iload_n hx hb d_Go_overByRule_125 rfl (lv_at hl 6 rfl) ?_
              obtain ⟨x32, hc31, hf⟩ := op_bind hf
              refine kr_i (C := R_Go) (b0 := ad 3) (rest := [.int x30]) hx hb hml hown hT cB_bl (cB_to hK hP hp hi) (va_recv hK hP (ci := 1) (q0 := 3) rfl rfl) (c_Go_slowestOf l n E F G P N dC dI ad cI cZ cW cJ v2 _ hc31) (cbW 1 hT cd_Go_slowestOf rfl rfl ini_Go ml_Go_142 hd_Go_slowestOf ⟨Nat.le_of_ble_eq_true rfl, Nat.le_of_ble_eq_true rfl⟩) im_Go_slowestOf sp_Go_slowestOf rfl hl.1 rfl (Nat.le_of_ble_eq_true rfl) d_Go_overByRule_126 ⟨Nat.zero_le _, Nat.zero_le _⟩ ?_
              refine lv_ior hx hb d_Go_overByRule_129 ?_
              obtain rfl := op_i1 hf
              exact rt_si hx hb hr hlk rfl d_Go_overByRule_130
            · have hf := op_t hc hf
              refine lv_aload_n hx hb d_Go_overByRule_98 rfl (lv_at hl 4 rfl) ?_
              refine lv_iload_n hx hb d_Go_overByRule_99 rfl (lv_at hl 6 rfl) ?_
              obtain ⟨x34, hc33, hf⟩ := op_bind hf
              refine kr_i (C := R_Go) (b0 := ad 3) (rest := []) hx hb hml hown hT cB_bl (cB_to hK hP hp hi) (va_recv hK hP (ci := 1) (q0 := 3) rfl rfl) (c_Go_slowestOf l n E F G P N dC dI ad cI cZ cW cJ v2 _ hc33) (cbW 1 hT cd_Go_slowestOf rfl rfl ini_Go ml_Go_142 hd_Go_slowestOf ⟨Nat.le_of_ble_eq_true rfl, Nat.le_of_ble_eq_true rfl⟩) im_Go_slowestOf sp_Go_slowestOf rfl hl.1 rfl (Nat.le_of_ble_eq_true rfl) d_Go_overByRule_100 ⟨Nat.zero_le _, Nat.zero_le _⟩ ?_
              refine lv_istore (lv' := [(7, .int x34), (6, .int x12), (5, .int x10), (4, .int (x6 ||| x8)), (3, .int x6), (0, .ref (ad 3)), (1, .int v1), (2, .int v2)]) hx hb d_Go_overByRule_103 hl (by decide) rfl (fun ls hl => ?_)
              refine lv_iload hx hb d_Go_overByRule_105 (lv_at hl 0 rfl) ?_
              refine lv_aload_n hx hb d_Go_overByRule_107 rfl (lv_at hl 5 rfl) ?_
              refine lv_iload_n hx hb d_Go_overByRule_108 rfl (lv_at hl 7 rfl) ?_
              refine lv_iload hx hb d_Go_overByRule_109 (lv_at hl 0 rfl) ?_
              refine lv_iconst (v := (-1)) hx hb d_Go_overByRule_111 (by decide) ?_
              refine lv_ixor hx hb d_Go_overByRule_112 ?_
              refine lv_iand hx hb d_Go_overByRule_113 ?_
              obtain ⟨x36, hc35, hf⟩ := op_bind hf
              refine kr_i (C := R_Go) (b0 := ad 3) (rest := [.int x34]) hx hb hml hown hT cB_bl (cB_to hK hP hp hi) (va_recv hK hP (ci := 1) (q0 := 3) rfl rfl) (c_Go_slowestOf l n E F G P N dC dI ad cI cZ cW cJ (v2 &&& (x34 ^^^ (-1))) _ hc35) (cbW 1 hT cd_Go_slowestOf rfl rfl ini_Go ml_Go_142 hd_Go_slowestOf ⟨Nat.le_of_ble_eq_true rfl, Nat.le_of_ble_eq_true rfl⟩) im_Go_slowestOf sp_Go_slowestOf rfl hl.1 rfl (Nat.le_of_ble_eq_true rfl) d_Go_overByRule_114 ⟨Nat.zero_le _, Nat.zero_le _⟩ ?_
              refine lv_ior hx hb d_Go_overByRule_117 ?_
              obtain rfl := op_i1 hf
              exact rt_si hx hb hr hlk rfl d_Go_overByRule_118
        · have hf := op_t hc hf
          refine lv_iload hx hb d_Go_overByRule_83 (lv_at hl 2 rfl) ?_
          obtain rfl := op_i1 hf
          exact rt_si hx hb hr hlk rfl d_Go_overByRule_85
  · have hf := op_t hc hf
    refine lv_iload_n hx hb d_Go_overByRule_5 rfl (lv_at hl 2 rfl) ?_
    refine lv_iload_n hx hb d_Go_overByRule_6 rfl (lv_at hl 2 rfl) ?_
    refine lv_ineg hx hb d_Go_overByRule_7 ?_
    refine lv_iand hx hb d_Go_overByRule_8 ?_
    refine lv_istore_n (lv' := [(3, .int (v2 &&& (-v2))), (0, .ref (ad 3)), (1, .int v1), (2, .int v2)]) hx hb d_Go_overByRule_9 rfl hl (by decide) rfl (fun ls hl => ?_)
    refine lv_iload_n hx hb d_Go_overByRule_10 rfl (lv_at hl 3 rfl) ?_
    refine lv_iload_n hx hb d_Go_overByRule_11 rfl (lv_at hl 0 rfl) ?_
    refine lv_iconst (v := (-1)) hx hb d_Go_overByRule_12 (by decide) ?_
    refine lv_ixor hx hb d_Go_overByRule_13 ?_
    refine lv_iand hx hb d_Go_overByRule_14 ?_
    refine lv_istore (lv' := [(4, .int (v2 &&& ((v2 &&& (-v2)) ^^^ (-1)))), (3, .int (v2 &&& (-v2))), (0, .ref (ad 3)), (1, .int v1), (2, .int v2)]) hx hb d_Go_overByRule_15 hl (by decide) rfl (fun ls hl => ?_)
    refine lv_iload_n hx hb d_Go_overByRule_17 rfl (lv_at hl 1 rfl) ?_
    refine lv_iload hx hb d_Go_overByRule_18 (lv_at hl 0 rfl) ?_
    refine lv_iload hx hb d_Go_overByRule_20 (lv_at hl 0 rfl) ?_
    refine lv_ineg hx hb d_Go_overByRule_22 ?_
    refine lv_iand hx hb d_Go_overByRule_23 ?_
    refine lv_ior hx hb d_Go_overByRule_24 ?_
    obtain rfl := op_i1 hf
    exact rt_si hx hb hr hlk rfl d_Go_overByRule_25
theorem hd_Go_byRule : y_Go_byRule.cls ≠ "java/lang/invoke/MethodHandle" ∧ y_Go_byRule.cls ≠ "java/lang/invoke/VarHandle" ∧ (parseMethodDescriptor y_Go_byRule.desc).map (fun d => d.parameters.length) = some 3 := by decide +kernel
theorem d_Go_byRule_0 : decode b_Go_byRule 0 = .ok (.iload_n 2, 1) := by decide +kernel
theorem d_Go_byRule_1 : decode b_Go_byRule 1 = .ok (.iconst 1, 1) := by decide +kernel
theorem d_Go_byRule_2 : decode b_Go_byRule 2 = .ok (.ishr, 1) := by decide +kernel
theorem d_Go_byRule_3 : decode b_Go_byRule 3 = .ok (.istore 4, 2) := by decide +kernel
theorem d_Go_byRule_5 : decode b_Go_byRule 5 = .ok (.iload_n 2, 1) := by decide +kernel
theorem d_Go_byRule_6 : decode b_Go_byRule 6 = .ok (.iconst 1, 1) := by decide +kernel
theorem d_Go_byRule_7 : decode b_Go_byRule 7 = .ok (.iand, 1) := by decide +kernel
theorem d_Go_byRule_8 : decode b_Go_byRule 8 = .ok (.istore 5, 2) := by decide +kernel
theorem d_Go_byRule_10 : decode b_Go_byRule 10 = .ok (.iconst 0, 1) := by decide +kernel
theorem d_Go_byRule_11 : decode b_Go_byRule 11 = .ok (.istore 6, 2) := by decide +kernel
theorem d_Go_byRule_13 : decode b_Go_byRule 13 = .ok (.iconst 0, 1) := by decide +kernel
theorem d_Go_byRule_14 : decode b_Go_byRule 14 = .ok (.istore 7, 2) := by decide +kernel
theorem d_Go_byRule_16 : decode b_Go_byRule 16 = .ok (.iload 7, 2) := by decide +kernel
theorem d_Go_byRule_18 : decode b_Go_byRule 18 = .ok (.bipush 40, 2) := by decide +kernel
theorem d_Go_byRule_20 : decode b_Go_byRule 20 = .ok (.if_icmp .gt 106, 3) := by decide +kernel
theorem d_Go_byRule_23 : decode b_Go_byRule 23 = .ok (.aload_n 0, 1) := by decide +kernel
theorem d_Go_byRule_24 : decode b_Go_byRule 24 = .ok (.getfield 50, 3) := by decide +kernel
theorem d_Go_byRule_27 : decode b_Go_byRule 27 = .ok (.iload 4, 2) := by decide +kernel
theorem d_Go_byRule_29 : decode b_Go_byRule 29 = .ok (.iconst (-1), 1) := by decide +kernel
theorem d_Go_byRule_30 : decode b_Go_byRule 30 = .ok (.ixor, 1) := by decide +kernel
theorem d_Go_byRule_31 : decode b_Go_byRule 31 = .ok (.iand, 1) := by decide +kernel
theorem d_Go_byRule_32 : decode b_Go_byRule 32 = .ok (.istore 8, 2) := by decide +kernel
theorem d_Go_byRule_34 : decode b_Go_byRule 34 = .ok (.iload 8, 2) := by decide +kernel
theorem d_Go_byRule_36 : decode b_Go_byRule 36 = .ok (.ifCond .ne 15, 3) := by decide +kernel
theorem d_Go_byRule_39 : decode b_Go_byRule 39 = .ok (.iload_n 3, 1) := by decide +kernel
theorem d_Go_byRule_40 : decode b_Go_byRule 40 = .ok (.ifCond .eq 8, 3) := by decide +kernel
theorem d_Go_byRule_43 : decode b_Go_byRule 43 = .ok (.iload 7, 2) := by decide +kernel
theorem d_Go_byRule_45 : decode b_Go_byRule 45 = .ok (.goto 5, 3) := by decide +kernel
theorem d_Go_byRule_48 : decode b_Go_byRule 48 = .ok (.iload 6, 2) := by decide +kernel
theorem d_Go_byRule_50 : decode b_Go_byRule 50 = .ok (.ireturn, 1) := by decide +kernel
theorem d_Go_byRule_51 : decode b_Go_byRule 51 = .ok (.iload 5, 2) := by decide +kernel
theorem d_Go_byRule_53 : decode b_Go_byRule 53 = .ok (.iconst 1, 1) := by decide +kernel
theorem d_Go_byRule_54 : decode b_Go_byRule 54 = .ok (.if_icmp .ne 12, 3) := by decide +kernel
theorem d_Go_byRule_57 : decode b_Go_byRule 57 = .ok (.aload_n 0, 1) := by decide +kernel
theorem d_Go_byRule_58 : decode b_Go_byRule 58 = .ok (.iload 4, 2) := by decide +kernel
theorem d_Go_byRule_60 : decode b_Go_byRule 60 = .ok (.invokevirtual 130, 3) := by decide +kernel
theorem d_Go_byRule_63 : decode b_Go_byRule 63 = .ok (.goto 10, 3) := by decide +kernel
theorem d_Go_byRule_66 : decode b_Go_byRule 66 = .ok (.aload_n 0, 1) := by decide +kernel
theorem d_Go_byRule_67 : decode b_Go_byRule 67 = .ok (.iload_n 1, 1) := by decide +kernel
theorem d_Go_byRule_68 : decode b_Go_byRule 68 = .ok (.iload 8, 2) := by decide +kernel
theorem d_Go_byRule_70 : decode b_Go_byRule 70 = .ok (.invokevirtual 133, 3) := by decide +kernel
theorem d_Go_byRule_73 : decode b_Go_byRule 73 = .ok (.istore 9, 2) := by decide +kernel
theorem d_Go_byRule_75 : decode b_Go_byRule 75 = .ok (.iload 9, 2) := by decide +kernel
theorem d_Go_byRule_77 : decode b_Go_byRule 77 = .ok (.ifCond .eq 14, 3) := by decide +kernel
theorem d_Go_byRule_80 : decode b_Go_byRule 80 = .ok (.aload_n 0, 1) := by decide +kernel
theorem d_Go_byRule_81 : decode b_Go_byRule 81 = .ok (.iload 9, 2) := by decide +kernel
theorem d_Go_byRule_83 : decode b_Go_byRule 83 = .ok (.iload 5, 2) := by decide +kernel
theorem d_Go_byRule_85 : decode b_Go_byRule 85 = .ok (.invokevirtual 136, 3) := by decide +kernel
theorem d_Go_byRule_88 : decode b_Go_byRule 88 = .ok (.ifCond .ne 6, 3) := by decide +kernel
theorem d_Go_byRule_91 : decode b_Go_byRule 91 = .ok (.bipush (-5), 2) := by decide +kernel
theorem d_Go_byRule_93 : decode b_Go_byRule 93 = .ok (.ireturn, 1) := by decide +kernel
theorem d_Go_byRule_94 : decode b_Go_byRule 94 = .ok (.iload 6, 2) := by decide +kernel
theorem d_Go_byRule_96 : decode b_Go_byRule 96 = .ok (.aload_n 0, 1) := by decide +kernel
theorem d_Go_byRule_97 : decode b_Go_byRule 97 = .ok (.iload 9, 2) := by decide +kernel
theorem d_Go_byRule_99 : decode b_Go_byRule 99 = .ok (.iload 5, 2) := by decide +kernel
theorem d_Go_byRule_101 : decode b_Go_byRule 101 = .ok (.invokevirtual 139, 3) := by decide +kernel
theorem d_Go_byRule_104 : decode b_Go_byRule 104 = .ok (.iadd, 1) := by decide +kernel
theorem d_Go_byRule_105 : decode b_Go_byRule 105 = .ok (.istore 6, 2) := by decide +kernel
theorem d_Go_byRule_107 : decode b_Go_byRule 107 = .ok (.iload 4, 2) := by decide +kernel
theorem d_Go_byRule_109 : decode b_Go_byRule 109 = .ok (.iload 9, 2) := by decide +kernel
theorem d_Go_byRule_111 : decode b_Go_byRule 111 = .ok (.ixor, 1) := by decide +kernel
theorem d_Go_byRule_112 : decode b_Go_byRule 112 = .ok (.istore 4, 2) := by decide +kernel
theorem d_Go_byRule_114 : decode b_Go_byRule 114 = .ok (.iconst 1, 1) := by decide +kernel
theorem d_Go_byRule_115 : decode b_Go_byRule 115 = .ok (.iload 5, 2) := by decide +kernel
theorem d_Go_byRule_117 : decode b_Go_byRule 117 = .ok (.isub, 1) := by decide +kernel
theorem d_Go_byRule_118 : decode b_Go_byRule 118 = .ok (.istore 5, 2) := by decide +kernel
theorem d_Go_byRule_120 : decode b_Go_byRule 120 = .ok (.iinc 7 1, 3) := by decide +kernel
theorem d_Go_byRule_123 : decode b_Go_byRule 123 = .ok (.goto (-107), 3) := by decide +kernel
theorem d_Go_byRule_126 : decode b_Go_byRule 126 = .ok (.bipush (-5), 2) := by decide +kernel
theorem d_Go_byRule_128 : decode b_Go_byRule 128 = .ok (.ireturn, 1) := by decide +kernel
def l_Go_byRule_16 (n : Nat) (E : PE) (F : Nat → Nat → Int32) (G : Nat → Nat → Int32) (P : Nat → Nat → Option Nat) (N : Nat → Nat)  (v1 : Int32) (v3 : Int32)  : Nat → Int32 → Int32 → Int32 → Int32 → Option (Int32)
  | 0, _, _, _, _ => none
  | k + 1, v4, v5, v6, v7 => (if 40 < v7 then some (-5) else (if ((F 3 2) &&& (v4 ^^^ (-1))) = 0 then (if v3 = 0 then some v6 else some v7) else (if v5 = 1 then (p_Go_quickestOf n E F G P N v4).bind fun x6 => some x6 else (p_Go_overByRule n E F G P N v1 (((F 3 2) &&& (v4 ^^^ (-1))))).bind fun x4 => some x4 : Option (Int32)).bind fun x2 => (if x2 = 0 then some (-5) else (p_Go_canBe n E F G P N x2 v5).bind fun x8 => (if x8 = 0 then some (-5) else (p_Go_minutesOf n E F G P N x2 v5).bind fun x10 => l_Go_byRule_16 n E F G P N v1 v3 k (v4 ^^^ x2) (1 - v5) (v6 + x10) (v7 + 1)))))
set_option maxHeartbeats 4000000 in
theorem wl_Go_byRule_16  {p : Program} {l : Launch} {e : Env} {s : State} {m : MethodId} {args : Array Value} {below : List Frame} {meth : Method} {c : Code} (hx : p.tables.exec = Jvm.exec) (hb : c.code = b_Go_byRule) (hml : c.maxLocals = 10) (hown : s.vm.findClass "LanternBridge$Goings" = some m.cls) (hT : ∀ w ∈ WT, w.before args s = true) (hr : meth.sig.returnType = some .int) (hlk : meth.locks = false) {dC : Nat → ClassId} {dI : Nat → Nat → Nat} {ad : Nat → Nat} {cI cZ cW cJ : ClassId} {E : PE} {F G : Nat → Nat → Int32} {P : Nat → Nat → Option Nat} {N : Nat → Nat} (hK : cK dC dI cI cZ cW cJ s) (hP : va_P (dC, dI) CL (cX ad cI cZ cW cJ F G P N) s.heap) (hp : pS dC dI cI E (fun _ => False) s.heap) (hi : iS s) (n : Nat)  (v1 : Int32) (v3 : Int32)  : ∀ (k : Nat) (v4 : Int32) (v5 : Int32) (v6 : Int32) (v7 : Int32) (z : Int32), l_Go_byRule_16 n E F G P N v1 v3 k v4 v5 v6 v7 = some z → ∀ (ls : Array Slot), lv_has ls 10 [(0, .ref (ad 3)), (1, .int v1), (3, .int v3), (4, .int v4), (5, .int v5), (6, .int v6), (7, .int v7)] → W p l e (rL 7) s m args below meth c s.heap [] 0 0 (MQ below (fun _ st oc t => oc = .returned (some (.int z)) ∧ t.heap = st.heap) args s 0 0 (fun _ => False)) (F0 m 16 ls []) := by
  intro k
  induction k with
  | zero => intro v4 v5 v6 v7 z hf; exact absurd hf (by unfold l_Go_byRule_16; exact fun h9 => by cases h9)
  | succ k ih =>
    intro v4 v5 v6 v7 z hf ls hl
    unfold l_Go_byRule_16 at hf
    refine lv_iload hx hb d_Go_byRule_16 (lv_at hl 6 rfl) ?_
    refine lv_bipush (v := 40) hx hb d_Go_byRule_18 (by decide) ?_
    refine lv_icmp_gt (tgt := 126) hx hb d_Go_byRule_20 (by decide) (fun hc => ?_) (fun hc => ?_)
    · have hf := op_t hc hf
      refine lv_bipush (v := (-5)) hx hb d_Go_byRule_126 (by decide) ?_
      obtain rfl := op_i1 hf
      exact rt_si hx hb hr hlk rfl d_Go_byRule_128
    · have hf := op_f hc hf
      refine lv_aload_n hx hb d_Go_byRule_23 rfl (lv_at hl 0 rfl) ?_
      refine cg_3_2 hx hb hT hown hK hP fl_Go_50 d_Go_byRule_24 ?_
      refine lv_iload hx hb d_Go_byRule_27 (lv_at hl 3 rfl) ?_
      refine lv_iconst (v := (-1)) hx hb d_Go_byRule_29 (by decide) ?_
      refine lv_ixor hx hb d_Go_byRule_30 ?_
      refine lv_iand hx hb d_Go_byRule_31 ?_
      refine lv_istore (lv' := [(8, .int ((F 3 2) &&& (v4 ^^^ (-1)))), (0, .ref (ad 3)), (1, .int v1), (3, .int v3), (4, .int v4), (5, .int v5), (6, .int v6), (7, .int v7)]) hx hb d_Go_byRule_32 hl (by decide) rfl (fun ls hl => ?_)
      refine lv_iload hx hb d_Go_byRule_34 (lv_at hl 0 rfl) ?_
      refine lv_if_ne (tgt := 51) hx hb d_Go_byRule_36 (by decide) (fun hc => ?_) (fun hc => ?_)
      · have hf := op_f hc hf
        refine lv_iload hx hb d_Go_byRule_51 (lv_at hl 5 rfl) ?_
        refine lv_iconst (v := 1) hx hb d_Go_byRule_53 (by decide) ?_
        obtain ⟨x2, he, hf⟩ := op_bind hf
        have K1 : ∀ (ls : Array Slot), lv_has ls 10 [(0, .ref (ad 3)), (1, .int v1), (3, .int v3), (4, .int v4), (5, .int v5), (6, .int v6), (7, .int v7)] → W p l e (rL 7) s m args below meth c s.heap [] 0 0 (MQ below (fun _ st oc t => oc = .returned (some (.int z)) ∧ t.heap = st.heap) args s 0 0 (fun _ => False)) (F0 m 73 ls [.int x2]) := by
          intro ls hl
          refine lv_istore (lv' := [(9, .int x2), (0, .ref (ad 3)), (1, .int v1), (3, .int v3), (4, .int v4), (5, .int v5), (6, .int v6), (7, .int v7)]) hx hb d_Go_byRule_73 hl (by decide) rfl (fun ls hl => ?_)
          refine lv_iload hx hb d_Go_byRule_75 (lv_at hl 0 rfl) ?_
          refine lv_if_eq (tgt := 91) hx hb d_Go_byRule_77 (by decide) (fun hc => ?_) (fun hc => ?_)
          · have hf := op_t hc hf
            refine lv_bipush (v := (-5)) hx hb d_Go_byRule_91 (by decide) ?_
            obtain rfl := op_i1 hf
            exact rt_si hx hb hr hlk rfl d_Go_byRule_93
          · have hf := op_f hc hf
            refine lv_aload_n hx hb d_Go_byRule_80 rfl (lv_at hl 1 rfl) ?_
            refine lv_iload hx hb d_Go_byRule_81 (lv_at hl 0 rfl) ?_
            refine lv_iload hx hb d_Go_byRule_83 (lv_at hl 5 rfl) ?_
            obtain ⟨x8, hc7, hf⟩ := op_bind hf
            refine kr_i (C := R_Go) (b0 := ad 3) (rest := []) hx hb hml hown hT cB_bl (cB_to hK hP hp hi) (va_recv hK hP (ci := 1) (q0 := 3) rfl rfl) (c_Go_canBe l n E F G P N dC dI ad cI cZ cW cJ x2 v5 _ hc7) (cbW 2 hT cd_Go_canBe rfl rfl ini_Go ml_Go_136 hd_Go_canBe ⟨Nat.le_of_ble_eq_true rfl, Nat.le_of_ble_eq_true rfl⟩) im_Go_canBe se_Go_Go_canBe__Go_canBe rfl hl.1 rfl (Nat.le_of_ble_eq_true rfl) d_Go_byRule_85 ⟨Nat.zero_le _, Nat.zero_le _⟩ ?_
            refine lv_if_ne (tgt := 94) hx hb d_Go_byRule_88 (by decide) (fun hc => ?_) (fun hc => ?_)
            · have hf := op_f hc hf
              refine lv_iload hx hb d_Go_byRule_94 (lv_at hl 6 rfl) ?_
              refine lv_aload_n hx hb d_Go_byRule_96 rfl (lv_at hl 1 rfl) ?_
              refine lv_iload hx hb d_Go_byRule_97 (lv_at hl 0 rfl) ?_
              refine lv_iload hx hb d_Go_byRule_99 (lv_at hl 5 rfl) ?_
              obtain ⟨x10, hc9, hf⟩ := op_bind hf
              refine kr_i (C := R_Go) (b0 := ad 3) (rest := [.int v6]) hx hb hml hown hT cB_bl (cB_to hK hP hp hi) (va_recv hK hP (ci := 1) (q0 := 3) rfl rfl) (c_Go_minutesOf l n E F G P N dC dI ad cI cZ cW cJ x2 v5 _ hc9) (cbW 2 hT cd_Go_minutesOf rfl rfl ini_Go ml_Go_139 hd_Go_minutesOf ⟨Nat.le_of_ble_eq_true rfl, Nat.le_of_ble_eq_true rfl⟩) im_Go_minutesOf se_Go_Go_minutesOf__Go_minutesOf rfl hl.1 rfl (Nat.le_of_ble_eq_true rfl) d_Go_byRule_101 ⟨Nat.zero_le _, Nat.zero_le _⟩ ?_
              refine lv_iadd hx hb d_Go_byRule_104 ?_
              refine lv_istore (lv' := [(6, .int (v6 + x10)), (9, .int x2), (0, .ref (ad 3)), (1, .int v1), (3, .int v3), (4, .int v4), (5, .int v5), (7, .int v7)]) hx hb d_Go_byRule_105 hl (by decide) rfl (fun ls hl => ?_)
              refine lv_iload hx hb d_Go_byRule_107 (lv_at hl 5 rfl) ?_
              refine lv_iload hx hb d_Go_byRule_109 (lv_at hl 1 rfl) ?_
              refine lv_ixor hx hb d_Go_byRule_111 ?_
              refine lv_istore (lv' := [(4, .int (v4 ^^^ x2)), (6, .int (v6 + x10)), (9, .int x2), (0, .ref (ad 3)), (1, .int v1), (3, .int v3), (5, .int v5), (7, .int v7)]) hx hb d_Go_byRule_112 hl (by decide) rfl (fun ls hl => ?_)
              refine lv_iconst (v := 1) hx hb d_Go_byRule_114 (by decide) ?_
              refine lv_iload hx hb d_Go_byRule_115 (lv_at hl 6 rfl) ?_
              refine lv_isub hx hb d_Go_byRule_117 ?_
              refine lv_istore (lv' := [(5, .int (1 - v5)), (4, .int (v4 ^^^ x2)), (6, .int (v6 + x10)), (9, .int x2), (0, .ref (ad 3)), (1, .int v1), (3, .int v3), (7, .int v7)]) hx hb d_Go_byRule_118 hl (by decide) rfl (fun ls hl => ?_)
              refine lv_iinc (v := (v7 + 1)) (lv' := [(7, .int (v7 + 1)), (5, .int (1 - v5)), (4, .int (v4 ^^^ x2)), (6, .int (v6 + x10)), (9, .int x2), (0, .ref (ad 3)), (1, .int v1), (3, .int v3)]) hx hb d_Go_byRule_120 hl (k := 7) rfl rfl (by decide) rfl (fun ls hl => ?_)
              refine lv_goto (tgt := 16) hx hb d_Go_byRule_123 (by decide) ?_
              exact ih (v4 ^^^ x2) (1 - v5) (v6 + x10) (v7 + 1) _ hf ls (lv_sub hl [5, 6, 7, 2, 1, 3, 0] rfl)
            · have hf := op_t hc hf
              refine lv_bipush (v := (-5)) hx hb d_Go_byRule_91 (by decide) ?_
              obtain rfl := op_i1 hf
              exact rt_si hx hb hr hlk rfl d_Go_byRule_93
        have hf := he
        refine lv_icmp_ne (tgt := 66) hx hb d_Go_byRule_54 (by decide) (fun hc => ?_) (fun hc => ?_)
        · have hf := op_f hc hf
          refine lv_aload_n hx hb d_Go_byRule_66 rfl (lv_at hl 1 rfl) ?_
          refine lv_iload_n hx hb d_Go_byRule_67 rfl (lv_at hl 2 rfl) ?_
          refine lv_iload hx hb d_Go_byRule_68 (lv_at hl 0 rfl) ?_
          obtain ⟨x4, hc3, hf⟩ := op_bind hf
          refine kr_i (C := R_Go) (b0 := ad 3) (rest := []) hx hb hml hown hT cB_bl (cB_to hK hP hp hi) (va_recv hK hP (ci := 1) (q0 := 3) rfl rfl) (c_Go_overByRule l n E F G P N dC dI ad cI cZ cW cJ v1 (((F 3 2) &&& (v4 ^^^ (-1)))) _ hc3) (cbW 2 hT cd_Go_overByRule rfl rfl ini_Go ml_Go_133 hd_Go_overByRule ⟨Nat.le_of_ble_eq_true rfl, Nat.le_of_ble_eq_true rfl⟩) im_Go_overByRule sp_Go_overByRule rfl hl.1 rfl (Nat.le_of_ble_eq_true rfl) d_Go_byRule_70 ⟨Nat.zero_le _, Nat.zero_le _⟩ ?_
          obtain rfl := op_i1 hf
          exact K1 ls (lv_sub hl [1, 2, 3, 4, 5, 6, 7] rfl)
        · have hf := op_t hc hf
          refine lv_aload_n hx hb d_Go_byRule_57 rfl (lv_at hl 1 rfl) ?_
          refine lv_iload hx hb d_Go_byRule_58 (lv_at hl 4 rfl) ?_
          obtain ⟨x6, hc5, hf⟩ := op_bind hf
          refine kr_i (C := R_Go) (b0 := ad 3) (rest := []) hx hb hml hown hT cB_bl (cB_to hK hP hp hi) (va_recv hK hP (ci := 1) (q0 := 3) rfl rfl) (c_Go_quickestOf l n E F G P N dC dI ad cI cZ cW cJ v4 _ hc5) (cbW 1 hT cd_Go_quickestOf rfl rfl ini_Go ml_Go_130 hd_Go_quickestOf ⟨Nat.le_of_ble_eq_true rfl, Nat.le_of_ble_eq_true rfl⟩) im_Go_quickestOf sp_Go_quickestOf rfl hl.1 rfl (Nat.le_of_ble_eq_true rfl) d_Go_byRule_60 ⟨Nat.zero_le _, Nat.zero_le _⟩ ?_
          refine lv_goto (tgt := 73) hx hb d_Go_byRule_63 (by decide) ?_
          obtain rfl := op_i1 hf
          exact K1 ls (lv_sub hl [1, 2, 3, 4, 5, 6, 7] rfl)
      · have hf := op_t hc hf
        refine lv_iload_n hx hb d_Go_byRule_39 rfl (lv_at hl 3 rfl) ?_
        refine lv_if_eq (tgt := 48) hx hb d_Go_byRule_40 (by decide) (fun hc => ?_) (fun hc => ?_)
        · have hf := op_t hc hf
          refine lv_iload hx hb d_Go_byRule_48 (lv_at hl 6 rfl) ?_
          obtain rfl := op_i1 hf
          exact rt_si hx hb hr hlk rfl d_Go_byRule_50
        · have hf := op_f hc hf
          refine lv_iload hx hb d_Go_byRule_43 (lv_at hl 7 rfl) ?_
          refine lv_goto (tgt := 50) hx hb d_Go_byRule_45 (by decide) ?_
          obtain rfl := op_i1 hf
          exact rt_si hx hb hr hlk rfl d_Go_byRule_50
def p_Go_byRule (n : Nat) (E : PE) (F : Nat → Nat → Int32) (G : Nat → Nat → Int32) (P : Nat → Nat → Option Nat) (N : Nat → Nat) (v1 : Int32) (v2 : Int32) (v3 : Int32)  : Option (Int32) := l_Go_byRule_16 n E F G P N v1 v3 n (v2 >>> (1 &&& 31)) (v2 &&& 1) 0 0
set_option maxHeartbeats 4000000 in
theorem c_Go_byRule (l : Launch) (n : Nat) (E : PE) (F : Nat → Nat → Int32) (G : Nat → Nat → Int32) (P : Nat → Nat → Option Nat) (N : Nat → Nat) (dC : Nat → ClassId) (dI : Nat → Nat → Nat) (ad : Nat → Nat) (cI cZ cW cJ : ClassId) (v1 : Int32) (v2 : Int32) (v3 : Int32)   : ROi l y_Go_byRule b_Go_byRule 10 (.int) (rL 7) (cB dC dI ad cI cZ cW cJ E F G P N) [.ref (ad 3), .int v1, .int v2, .int v3] (p_Go_byRule n E F G P N v1 v2 v3 ) := by
  refine en_roi (by decide) (Nat.le_of_ble_eq_true rfl) ?_
  intro z hf p e s m args below meth c ls hx hb hml hown hT hr hlk hB hl
  obtain ⟨hK, hP, hp, hi⟩ := hB
  have hl : lv_has ls 10 [(0, .ref (ad 3)), (1, .int v1), (2, .int v2), (3, .int v3)] := hl
  unfold p_Go_byRule at hf
  refine lv_iload_n hx hb d_Go_byRule_0 rfl (lv_at hl 2 rfl) ?_
  refine lv_iconst (v := 1) hx hb d_Go_byRule_1 (by decide) ?_
  refine lv_ishr hx hb d_Go_byRule_2 ?_
  refine lv_istore (lv' := [(4, .int (v2 >>> (1 &&& 31))), (0, .ref (ad 3)), (1, .int v1), (2, .int v2), (3, .int v3)]) hx hb d_Go_byRule_3 hl (by decide) rfl (fun ls hl => ?_)
  refine lv_iload_n hx hb d_Go_byRule_5 rfl (lv_at hl 3 rfl) ?_
  refine lv_iconst (v := 1) hx hb d_Go_byRule_6 (by decide) ?_
  refine lv_iand hx hb d_Go_byRule_7 ?_
  refine lv_istore (lv' := [(5, .int (v2 &&& 1)), (4, .int (v2 >>> (1 &&& 31))), (0, .ref (ad 3)), (1, .int v1), (2, .int v2), (3, .int v3)]) hx hb d_Go_byRule_8 hl (by decide) rfl (fun ls hl => ?_)
  refine lv_iconst (v := 0) hx hb d_Go_byRule_10 (by decide) ?_
  refine lv_istore (lv' := [(6, .int 0), (5, .int (v2 &&& 1)), (4, .int (v2 >>> (1 &&& 31))), (0, .ref (ad 3)), (1, .int v1), (2, .int v2), (3, .int v3)]) hx hb d_Go_byRule_11 hl (by decide) rfl (fun ls hl => ?_)
  refine lv_iconst (v := 0) hx hb d_Go_byRule_13 (by decide) ?_
  refine lv_istore (lv' := [(7, .int 0), (6, .int 0), (5, .int (v2 &&& 1)), (4, .int (v2 >>> (1 &&& 31))), (0, .ref (ad 3)), (1, .int v1), (2, .int v2), (3, .int v3)]) hx hb d_Go_byRule_14 hl (by decide) rfl (fun ls hl => ?_)
  exact wl_Go_byRule_16 hx hb hml hown hT hr hlk hK hP hp hi n v1 v3 n (v2 >>> (1 &&& 31)) (v2 &&& 1) 0 0 _ hf ls (lv_sub hl [4, 5, 7, 3, 2, 1, 0] rfl)
theorem hd_Go_bestRule : y_Go_bestRule.cls ≠ "java/lang/invoke/MethodHandle" ∧ y_Go_bestRule.cls ≠ "java/lang/invoke/VarHandle" ∧ (parseMethodDescriptor y_Go_bestRule.desc).map (fun d => d.parameters.length) = some 1 := by decide +kernel
theorem d_Go_bestRule_0 : decode b_Go_bestRule 0 = .ok (.iconst 0, 1) := by decide +kernel
theorem d_Go_bestRule_1 : decode b_Go_bestRule 1 = .ok (.istore_n 2, 1) := by decide +kernel
theorem d_Go_bestRule_2 : decode b_Go_bestRule 2 = .ok (.bipush (-5), 2) := by decide +kernel
theorem d_Go_bestRule_4 : decode b_Go_bestRule 4 = .ok (.istore_n 3, 1) := by decide +kernel
theorem d_Go_bestRule_5 : decode b_Go_bestRule 5 = .ok (.iconst 0, 1) := by decide +kernel
theorem d_Go_bestRule_6 : decode b_Go_bestRule 6 = .ok (.istore 4, 2) := by decide +kernel
theorem d_Go_bestRule_8 : decode b_Go_bestRule 8 = .ok (.iload 4, 2) := by decide +kernel
theorem d_Go_bestRule_10 : decode b_Go_bestRule 10 = .ok (.iconst 3, 1) := by decide +kernel
theorem d_Go_bestRule_11 : decode b_Go_bestRule 11 = .ok (.if_icmp .ge 44, 3) := by decide +kernel
theorem d_Go_bestRule_14 : decode b_Go_bestRule 14 = .ok (.aload_n 0, 1) := by decide +kernel
theorem d_Go_bestRule_15 : decode b_Go_bestRule 15 = .ok (.iload 4, 2) := by decide +kernel
theorem d_Go_bestRule_17 : decode b_Go_bestRule 17 = .ok (.iload_n 1, 1) := by decide +kernel
theorem d_Go_bestRule_18 : decode b_Go_bestRule 18 = .ok (.iconst 0, 1) := by decide +kernel
theorem d_Go_bestRule_19 : decode b_Go_bestRule 19 = .ok (.invokevirtual 126, 3) := by decide +kernel
theorem d_Go_bestRule_22 : decode b_Go_bestRule 22 = .ok (.istore 5, 2) := by decide +kernel
theorem d_Go_bestRule_24 : decode b_Go_bestRule 24 = .ok (.iload 5, 2) := by decide +kernel
theorem d_Go_bestRule_26 : decode b_Go_bestRule 26 = .ok (.bipush (-5), 2) := by decide +kernel
theorem d_Go_bestRule_28 : decode b_Go_bestRule 28 = .ok (.if_icmp .eq 21, 3) := by decide +kernel
theorem d_Go_bestRule_31 : decode b_Go_bestRule 31 = .ok (.iload_n 3, 1) := by decide +kernel
theorem d_Go_bestRule_32 : decode b_Go_bestRule 32 = .ok (.bipush (-5), 2) := by decide +kernel
theorem d_Go_bestRule_34 : decode b_Go_bestRule 34 = .ok (.if_icmp .eq 9, 3) := by decide +kernel
theorem d_Go_bestRule_37 : decode b_Go_bestRule 37 = .ok (.iload 5, 2) := by decide +kernel
theorem d_Go_bestRule_39 : decode b_Go_bestRule 39 = .ok (.iload_n 3, 1) := by decide +kernel
theorem d_Go_bestRule_40 : decode b_Go_bestRule 40 = .ok (.if_icmp .ge 9, 3) := by decide +kernel
theorem d_Go_bestRule_43 : decode b_Go_bestRule 43 = .ok (.iload 4, 2) := by decide +kernel
theorem d_Go_bestRule_45 : decode b_Go_bestRule 45 = .ok (.istore_n 2, 1) := by decide +kernel
theorem d_Go_bestRule_46 : decode b_Go_bestRule 46 = .ok (.iload 5, 2) := by decide +kernel
theorem d_Go_bestRule_48 : decode b_Go_bestRule 48 = .ok (.istore_n 3, 1) := by decide +kernel
theorem d_Go_bestRule_49 : decode b_Go_bestRule 49 = .ok (.iinc 4 1, 3) := by decide +kernel
theorem d_Go_bestRule_52 : decode b_Go_bestRule 52 = .ok (.goto (-44), 3) := by decide +kernel
theorem d_Go_bestRule_55 : decode b_Go_bestRule 55 = .ok (.iload_n 2, 1) := by decide +kernel
theorem d_Go_bestRule_56 : decode b_Go_bestRule 56 = .ok (.ireturn, 1) := by decide +kernel
def l_Go_bestRule_8 (n : Nat) (E : PE) (F : Nat → Nat → Int32) (G : Nat → Nat → Int32) (P : Nat → Nat → Option Nat) (N : Nat → Nat)  (v1 : Int32)  : Nat → Int32 → Int32 → Int32 → Option (Int32)
  | 0, _, _, _ => none
  | k + 1, v2, v3, v4 => (if 3 ≤ v4 then some v2 else (p_Go_byRule n E F G P N v4 v1 0).bind fun x2 => (if x2 = (-5) then some (v2, v3) else (if v3 = (-5) then some (v4, x2) else (if v3 ≤ x2 then some (v2, v3) else some (v4, x2))) : Option (Int32 × Int32)).bind fun (x4, x5) => l_Go_bestRule_8 n E F G P N v1 k x4 x5 (v4 + 1))
set_option maxHeartbeats 4000000 in
theorem wl_Go_bestRule_8 {Q : State → Prop}  {p : Program} {l : Launch} {e : Env} {s : State} {m : MethodId} {args : Array Value} {below : List Frame} {meth : Method} {c : Code} (hx : p.tables.exec = Jvm.exec) (hb : c.code = b_Go_bestRule) (hml : c.maxLocals = 6) (hown : s.vm.findClass "LanternBridge$Goings" = some m.cls) (hT : ∀ w ∈ WT, w.before args s = true) (hr : meth.sig.returnType = some .int) (hlk : meth.locks = false) {dC : Nat → ClassId} {dI : Nat → Nat → Nat} {ad : Nat → Nat} {cI cZ cW cJ : ClassId} {E : PE} {F G : Nat → Nat → Int32} {P : Nat → Nat → Option Nat} {N : Nat → Nat} (hK : cK dC dI cI cZ cW cJ s) (hP : va_P (dC, dI) CL (cX ad cI cZ cW cJ F G P N) s.heap) (hp : pS dC dI cI E (fun _ => False) s.heap) (hi : iS s) (n : Nat)  (v1 : Int32)  : ∀ (k : Nat) (v2 : Int32) (v3 : Int32) (v4 : Int32) (r0 : Int32), l_Go_bestRule_8 n E F G P N v1 k v2 v3 v4 = some r0 → (∀ (ls : Array Slot), lv_has ls 6 [(2, .int r0)] → W p l e (rL 8) s m args below meth c s.heap [] 0 0 Q (F0 m 55 ls [])) → ∀ (ls : Array Slot), lv_has ls 6 [(0, .ref (ad 3)), (1, .int v1), (2, .int v2), (3, .int v3), (4, .int v4)] → W p l e (rL 8) s m args below meth c s.heap [] 0 0 Q (F0 m 8 ls []) := by
  intro k
  induction k with
  | zero => intro v2 v3 v4 r0 hf; exact absurd hf (by unfold l_Go_bestRule_8; exact fun h9 => by cases h9)
  | succ k ih =>
    intro v2 v3 v4 r0 hf K ls hl
    unfold l_Go_bestRule_8 at hf
    refine lv_iload hx hb d_Go_bestRule_8 (lv_at hl 4 rfl) ?_
    refine lv_iconst (v := 3) hx hb d_Go_bestRule_10 (by decide) ?_
    refine lv_icmp_ge (tgt := 55) hx hb d_Go_bestRule_11 (by decide) (fun hc => ?_) (fun hc => ?_)
    · have hf := op_t hc hf
      obtain rfl := op_i1 hf
      exact K ls (lv_sub hl [2] rfl)
    · have hf := op_f hc hf
      refine lv_aload_n hx hb d_Go_bestRule_14 rfl (lv_at hl 0 rfl) ?_
      refine lv_iload hx hb d_Go_bestRule_15 (lv_at hl 4 rfl) ?_
      refine lv_iload_n hx hb d_Go_bestRule_17 rfl (lv_at hl 1 rfl) ?_
      refine lv_iconst (v := 0) hx hb d_Go_bestRule_18 (by decide) ?_
      obtain ⟨x2, hc1, hf⟩ := op_bind hf
      refine kr_i (C := R_Go) (b0 := ad 3) (rest := []) hx hb hml hown hT cB_bl (cB_to hK hP hp hi) (va_recv hK hP (ci := 1) (q0 := 3) rfl rfl) (c_Go_byRule l n E F G P N dC dI ad cI cZ cW cJ v4 v1 0 _ hc1) (cbW 3 hT cd_Go_byRule rfl rfl ini_Go ml_Go_126 hd_Go_byRule ⟨Nat.le_of_ble_eq_true rfl, Nat.le_of_ble_eq_true rfl⟩) im_Go_byRule se_Go_Go_byRule__Go_byRule rfl hl.1 rfl (Nat.le_of_ble_eq_true rfl) d_Go_bestRule_19 ⟨Nat.zero_le _, Nat.zero_le _⟩ ?_
      refine lv_istore (lv' := [(5, .int x2), (0, .ref (ad 3)), (1, .int v1), (2, .int v2), (3, .int v3), (4, .int v4)]) hx hb d_Go_bestRule_22 hl (by decide) rfl (fun ls hl => ?_)
      refine lv_iload hx hb d_Go_bestRule_24 (lv_at hl 0 rfl) ?_
      refine lv_bipush (v := (-5)) hx hb d_Go_bestRule_26 (by decide) ?_
      obtain ⟨⟨x4, x5⟩, he, hf⟩ := op_bind hf
      try dsimp only at hf
      have K3 : ∀ (ls : Array Slot), lv_has ls 6 [(0, .ref (ad 3)), (1, .int v1), (2, .int x4), (3, .int x5), (4, .int v4)] → W p l e (rL 8) s m args below meth c s.heap [] 0 0 Q (F0 m 49 ls []) := by
        intro ls hl
        refine lv_iinc (v := (v4 + 1)) (lv' := [(4, .int (v4 + 1)), (0, .ref (ad 3)), (1, .int v1), (2, .int x4), (3, .int x5)]) hx hb d_Go_bestRule_49 hl (k := 4) rfl rfl (by decide) rfl (fun ls hl => ?_)
        refine lv_goto (tgt := 8) hx hb d_Go_bestRule_52 (by decide) ?_
        exact ih x4 x5 (v4 + 1) _ hf K ls (lv_sub hl [1, 2, 3, 4, 0] rfl)
      have hf := he
      refine lv_icmp_eq (tgt := 49) hx hb d_Go_bestRule_28 (by decide) (fun hc => ?_) (fun hc => ?_)
      · have hf := op_t hc hf
        obtain ⟨rfl, rfl⟩ := op_i2 hf
        exact K3 ls (lv_sub hl [1, 2, 3, 4, 5] rfl)
      · have hf := op_f hc hf
        refine lv_iload_n hx hb d_Go_bestRule_31 rfl (lv_at hl 4 rfl) ?_
        refine lv_bipush (v := (-5)) hx hb d_Go_bestRule_32 (by decide) ?_
        refine lv_icmp_eq (tgt := 43) hx hb d_Go_bestRule_34 (by decide) (fun hc => ?_) (fun hc => ?_)
        · have hf := op_t hc hf
          refine lv_iload hx hb d_Go_bestRule_43 (lv_at hl 5 rfl) ?_
          refine lv_istore_n (lv' := [(2, .int v4), (5, .int x2), (0, .ref (ad 3)), (1, .int v1), (3, .int v3), (4, .int v4)]) hx hb d_Go_bestRule_45 rfl hl (by decide) rfl (fun ls hl => ?_)
          refine lv_iload hx hb d_Go_bestRule_46 (lv_at hl 1 rfl) ?_
          refine lv_istore_n (lv' := [(3, .int x2), (2, .int v4), (5, .int x2), (0, .ref (ad 3)), (1, .int v1), (4, .int v4)]) hx hb d_Go_bestRule_48 rfl hl (by decide) rfl (fun ls hl => ?_)
          obtain ⟨rfl, rfl⟩ := op_i2 hf
          exact K3 ls (lv_sub hl [3, 4, 1, 0, 5] rfl)
        · have hf := op_f hc hf
          refine lv_iload hx hb d_Go_bestRule_37 (lv_at hl 0 rfl) ?_
          refine lv_iload_n hx hb d_Go_bestRule_39 rfl (lv_at hl 4 rfl) ?_
          refine lv_icmp_ge (tgt := 49) hx hb d_Go_bestRule_40 (by decide) (fun hc => ?_) (fun hc => ?_)
          · have hf := op_t hc hf
            obtain ⟨rfl, rfl⟩ := op_i2 hf
            exact K3 ls (lv_sub hl [1, 2, 3, 4, 5] rfl)
          · have hf := op_f hc hf
            refine lv_iload hx hb d_Go_bestRule_43 (lv_at hl 5 rfl) ?_
            refine lv_istore_n (lv' := [(2, .int v4), (5, .int x2), (0, .ref (ad 3)), (1, .int v1), (3, .int v3), (4, .int v4)]) hx hb d_Go_bestRule_45 rfl hl (by decide) rfl (fun ls hl => ?_)
            refine lv_iload hx hb d_Go_bestRule_46 (lv_at hl 1 rfl) ?_
            refine lv_istore_n (lv' := [(3, .int x2), (2, .int v4), (5, .int x2), (0, .ref (ad 3)), (1, .int v1), (4, .int v4)]) hx hb d_Go_bestRule_48 rfl hl (by decide) rfl (fun ls hl => ?_)
            obtain ⟨rfl, rfl⟩ := op_i2 hf
            exact K3 ls (lv_sub hl [3, 4, 1, 0, 5] rfl)
def p_Go_bestRule (n : Nat) (E : PE) (F : Nat → Nat → Int32) (G : Nat → Nat → Int32) (P : Nat → Nat → Option Nat) (N : Nat → Nat) (v1 : Int32)  : Option (Int32) := (l_Go_bestRule_8 n E F G P N v1 n 0 (-5) 0).bind fun y6 => some y6
set_option maxHeartbeats 4000000 in
theorem c_Go_bestRule (l : Launch) (n : Nat) (E : PE) (F : Nat → Nat → Int32) (G : Nat → Nat → Int32) (P : Nat → Nat → Option Nat) (N : Nat → Nat) (dC : Nat → ClassId) (dI : Nat → Nat → Nat) (ad : Nat → Nat) (cI cZ cW cJ : ClassId) (v1 : Int32)   : ROi l y_Go_bestRule b_Go_bestRule 6 (.int) (rL 8) (cB dC dI ad cI cZ cW cJ E F G P N) [.ref (ad 3), .int v1] (p_Go_bestRule n E F G P N v1 ) := by
  refine en_roi (by decide) (Nat.le_of_ble_eq_true rfl) ?_
  intro z hf p e s m args below meth c ls hx hb hml hown hT hr hlk hB hl
  obtain ⟨hK, hP, hp, hi⟩ := hB
  have hl : lv_has ls 6 [(0, .ref (ad 3)), (1, .int v1)] := hl
  unfold p_Go_bestRule at hf
  refine lv_iconst (v := 0) hx hb d_Go_bestRule_0 (by decide) ?_
  refine lv_istore_n (lv' := [(2, .int 0), (0, .ref (ad 3)), (1, .int v1)]) hx hb d_Go_bestRule_1 rfl hl (by decide) rfl (fun ls hl => ?_)
  refine lv_bipush (v := (-5)) hx hb d_Go_bestRule_2 (by decide) ?_
  refine lv_istore_n (lv' := [(3, .int (-5)), (2, .int 0), (0, .ref (ad 3)), (1, .int v1)]) hx hb d_Go_bestRule_4 rfl hl (by decide) rfl (fun ls hl => ?_)
  refine lv_iconst (v := 0) hx hb d_Go_bestRule_5 (by decide) ?_
  refine lv_istore (lv' := [(4, .int 0), (3, .int (-5)), (2, .int 0), (0, .ref (ad 3)), (1, .int v1)]) hx hb d_Go_bestRule_6 hl (by decide) rfl (fun ls hl => ?_)
  obtain ⟨y6, he, hf⟩ := op_bind hf
  refine wl_Go_bestRule_8 hx hb hml hown hT hr hlk hK hP hp hi n v1 n 0 (-5) 0 _ he (fun ls hl => ?_) ls (lv_sub hl [3, 4, 2, 1, 0] rfl)
  refine lv_iload_n hx hb d_Go_bestRule_55 rfl (lv_at hl 0 rfl) ?_
  obtain rfl := op_i1 hf
  exact rt_si hx hb hr hlk rfl d_Go_bestRule_56
