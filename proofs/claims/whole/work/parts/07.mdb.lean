theorem hd_Md_emits : y_Md_emits.cls ≠ "java/lang/invoke/MethodHandle" ∧ y_Md_emits.cls ≠ "java/lang/invoke/VarHandle" ∧ (parseMethodDescriptor y_Md_emits.desc).map (fun d => d.parameters.length) = some 1 := by decide +kernel
theorem d_Md_emits_0 : decode b_Md_emits 0 = .ok (.aload_n 0, 1) := by decide +kernel
theorem d_Md_emits_1 : decode b_Md_emits 1 = .ok (.getfield 58, 3) := by decide +kernel
theorem d_Md_emits_4 : decode b_Md_emits 4 = .ok (.ifCond .ne 52, 3) := by decide +kernel
theorem d_Md_emits_7 : decode b_Md_emits 7 = .ok (.aload_n 0, 1) := by decide +kernel
theorem d_Md_emits_8 : decode b_Md_emits 8 = .ok (.getfield 9, 3) := by decide +kernel
theorem d_Md_emits_11 : decode b_Md_emits 11 = .ok (.sipush 190, 3) := by decide +kernel
theorem d_Md_emits_14 : decode b_Md_emits 14 = .ok (.sipush 140, 3) := by decide +kernel
theorem d_Md_emits_17 : decode b_Md_emits 17 = .ok (.aload_n 0, 1) := by decide +kernel
theorem d_Md_emits_18 : decode b_Md_emits 18 = .ok (.getfield 78, 3) := by decide +kernel
theorem d_Md_emits_21 : decode b_Md_emits 21 = .ok (.imul, 1) := by decide +kernel
theorem d_Md_emits_22 : decode b_Md_emits 22 = .ok (.iadd, 1) := by decide +kernel
theorem d_Md_emits_23 : decode b_Md_emits 23 = .ok (.aload_n 0, 1) := by decide +kernel
theorem d_Md_emits_24 : decode b_Md_emits 24 = .ok (.getfield 9, 3) := by decide +kernel
theorem d_Md_emits_27 : decode b_Md_emits 27 = .ok (.sipush 185, 3) := by decide +kernel
theorem d_Md_emits_30 : decode b_Md_emits 30 = .ok (.aload_n 0, 1) := by decide +kernel
theorem d_Md_emits_31 : decode b_Md_emits 31 = .ok (.getfield 78, 3) := by decide +kernel
theorem d_Md_emits_34 : decode b_Md_emits 34 = .ok (.iadd, 1) := by decide +kernel
theorem d_Md_emits_35 : decode b_Md_emits 35 = .ok (.iaload, 1) := by decide +kernel
theorem d_Md_emits_36 : decode b_Md_emits 36 = .ok (.iadd, 1) := by decide +kernel
theorem d_Md_emits_37 : decode b_Md_emits 37 = .ok (.iload_n 1, 1) := by decide +kernel
theorem d_Md_emits_38 : decode b_Md_emits 38 = .ok (.iastore, 1) := by decide +kernel
theorem d_Md_emits_39 : decode b_Md_emits 39 = .ok (.aload_n 0, 1) := by decide +kernel
theorem d_Md_emits_40 : decode b_Md_emits 40 = .ok (.getfield 9, 3) := by decide +kernel
theorem d_Md_emits_43 : decode b_Md_emits 43 = .ok (.sipush 185, 3) := by decide +kernel
theorem d_Md_emits_46 : decode b_Md_emits 46 = .ok (.aload_n 0, 1) := by decide +kernel
theorem d_Md_emits_47 : decode b_Md_emits 47 = .ok (.getfield 78, 3) := by decide +kernel
theorem d_Md_emits_50 : decode b_Md_emits 50 = .ok (.iadd, 1) := by decide +kernel
theorem d_Md_emits_51 : decode b_Md_emits 51 = .ok (.dup2, 1) := by decide +kernel
theorem d_Md_emits_52 : decode b_Md_emits 52 = .ok (.iaload, 1) := by decide +kernel
theorem d_Md_emits_53 : decode b_Md_emits 53 = .ok (.iconst 1, 1) := by decide +kernel
theorem d_Md_emits_54 : decode b_Md_emits 54 = .ok (.iadd, 1) := by decide +kernel
theorem d_Md_emits_55 : decode b_Md_emits 55 = .ok (.iastore, 1) := by decide +kernel
theorem d_Md_emits_56 : decode b_Md_emits 56 = .ok (.return_, 1) := by decide +kernel
def p_Md_emits (n : Nat) (v1 : Int32) (I : Nat → Int32) (R : Nat → Nat → Int32) : Option (MU) := (if (I 7) = 0 then if ix (185 + (I 4)) 890 then if ix (((190 + (140 * (I 4))) + (R 1 (185 + (I 4)).toNatClampNeg))) 890 then if ix (185 + (I 4)) 890 then if ix (185 + (I 4)) 890 then some (I, (upR (upR R 1 (((190 + (140 * (I 4))) + (R 1 (185 + (I 4)).toNatClampNeg))).toNatClampNeg v1) 1 (185 + (I 4)).toNatClampNeg (((((upR R 1 (((190 + (140 * (I 4))) + (R 1 (185 + (I 4)).toNatClampNeg))).toNatClampNeg v1)) 1 (185 + (I 4)).toNatClampNeg) + 1)))) else none else none else none else none else some (I, R))
set_option maxHeartbeats 4000000 in
theorem c_Md_emits (l : Launch) (n : Nat) (v1 : Int32) (I : Nat → Int32) (R : Nat → Nat → Int32)  : MMv l y_Md_emits b_Md_emits 2 (rL 5) (fun ad adK => [.int v1]) I R (p_Md_emits n v1 I R) := by
  refine en_mv (by decide) rfl (fun _ _ => Nat.le_of_ble_eq_true rfl) ?_
  intro z hf p e s m args below meth c dC dI ad cI cZ A adK adV ls C hA h hr hlk hl
  have hl : lv_has ls 2 [(0, .ref (ad 0)), (1, .int v1)] := hl
  unfold p_Md_emits at hf
  obtain ⟨hx, hb, hml, hown, hT, -⟩ := id C
  refine lv_aload_n hx hb d_Md_emits_0 rfl (lv_at hl 0 rfl) ?_
  refine mg_7 C h d_Md_emits_1 ?_
  refine lv_if_ne (tgt := 56) hx hb d_Md_emits_4 (by decide) (fun hc => ?_) (fun hc => ?_)
  · have hf := op_f hc hf
    exact rt_mv C h hr hlk hf d_Md_emits_56
  · have hf := op_t hc hf
    refine lv_aload_n hx hb d_Md_emits_7 rfl (lv_at hl 0 rfl) ?_
    refine mg_1 C h d_Md_emits_8 ?_
    refine lv_sipush (v := 190) hx hb d_Md_emits_11 (by decide) ?_
    refine lv_sipush (v := 140) hx hb d_Md_emits_14 (by decide) ?_
    refine lv_aload_n hx hb d_Md_emits_17 rfl (lv_at hl 0 rfl) ?_
    refine mg_4 C h d_Md_emits_18 ?_
    refine lv_imul hx hb d_Md_emits_21 ?_
    refine lv_iadd hx hb d_Md_emits_22 ?_
    refine lv_aload_n hx hb d_Md_emits_23 rfl (lv_at hl 0 rfl) ?_
    refine mg_1 C h d_Md_emits_24 ?_
    refine lv_sipush (v := 185) hx hb d_Md_emits_27 (by decide) ?_
    refine lv_aload_n hx hb d_Md_emits_30 rfl (lv_at hl 0 rfl) ?_
    refine mg_4 C h d_Md_emits_31 ?_
    refine lv_iadd hx hb d_Md_emits_34 ?_
    obtain ⟨h1, hf⟩ := op_if hf
    refine ma_1 C h rfl h1 d_Md_emits_35 ?_
    refine lv_iadd hx hb d_Md_emits_36 ?_
    refine lv_iload_n hx hb d_Md_emits_37 rfl (lv_at hl 1 rfl) ?_
    obtain ⟨h2, hf⟩ := op_if hf
    refine ms_1 C h rfl h2 d_Md_emits_38 (fun H locs h => ?_)
    refine lv_aload_n hx hb d_Md_emits_39 rfl (lv_at hl 0 rfl) ?_
    refine mg_1 C h d_Md_emits_40 ?_
    refine lv_sipush (v := 185) hx hb d_Md_emits_43 (by decide) ?_
    refine lv_aload_n hx hb d_Md_emits_46 rfl (lv_at hl 0 rfl) ?_
    refine mg_4 C h d_Md_emits_47 ?_
    refine lv_iadd hx hb d_Md_emits_50 ?_
    refine lv_dup2_11 hx hb d_Md_emits_51 rfl rfl ?_
    obtain ⟨h3, hf⟩ := op_if hf
    refine ma_1 C h rfl h3 d_Md_emits_52 ?_
    refine lv_iconst (v := 1) hx hb d_Md_emits_53 (by decide) ?_
    refine lv_iadd hx hb d_Md_emits_54 ?_
    obtain ⟨h4, hf⟩ := op_if hf
    refine ms_1 C h rfl h4 d_Md_emits_55 (fun H locs h => ?_)
    exact rt_mv C h hr hlk hf d_Md_emits_56
theorem hd_Md_tellsOf : y_Md_tellsOf.cls ≠ "java/lang/invoke/MethodHandle" ∧ y_Md_tellsOf.cls ≠ "java/lang/invoke/VarHandle" ∧ (parseMethodDescriptor y_Md_tellsOf.desc).map (fun d => d.parameters.length) = some 2 := by decide +kernel
theorem d_Md_tellsOf_0 : decode b_Md_tellsOf 0 = .ok (.aload_n 0, 1) := by decide +kernel
theorem d_Md_tellsOf_1 : decode b_Md_tellsOf 1 = .ok (.getfield 9, 3) := by decide +kernel
theorem d_Md_tellsOf_4 : decode b_Md_tellsOf 4 = .ok (.iconst 5, 1) := by decide +kernel
theorem d_Md_tellsOf_5 : decode b_Md_tellsOf 5 = .ok (.iaload, 1) := by decide +kernel
theorem d_Md_tellsOf_6 : decode b_Md_tellsOf 6 = .ok (.iconst (-1), 1) := by decide +kernel
theorem d_Md_tellsOf_7 : decode b_Md_tellsOf 7 = .ok (.if_icmp .ne 7, 3) := by decide +kernel
theorem d_Md_tellsOf_10 : decode b_Md_tellsOf 10 = .ok (.iload_n 2, 1) := by decide +kernel
theorem d_Md_tellsOf_11 : decode b_Md_tellsOf 11 = .ok (.goto 16, 3) := by decide +kernel
theorem d_Md_tellsOf_14 : decode b_Md_tellsOf 14 = .ok (.aload_n 0, 1) := by decide +kernel
theorem d_Md_tellsOf_15 : decode b_Md_tellsOf 15 = .ok (.getfield 9, 3) := by decide +kernel
theorem d_Md_tellsOf_18 : decode b_Md_tellsOf 18 = .ok (.iload_n 1, 1) := by decide +kernel
theorem d_Md_tellsOf_19 : decode b_Md_tellsOf 19 = .ok (.aload_n 0, 1) := by decide +kernel
theorem d_Md_tellsOf_20 : decode b_Md_tellsOf 20 = .ok (.getfield 9, 3) := by decide +kernel
theorem d_Md_tellsOf_23 : decode b_Md_tellsOf 23 = .ok (.iconst 5, 1) := by decide +kernel
theorem d_Md_tellsOf_24 : decode b_Md_tellsOf 24 = .ok (.iaload, 1) := by decide +kernel
theorem d_Md_tellsOf_25 : decode b_Md_tellsOf 25 = .ok (.iadd, 1) := by decide +kernel
theorem d_Md_tellsOf_26 : decode b_Md_tellsOf 26 = .ok (.iaload, 1) := by decide +kernel
theorem d_Md_tellsOf_27 : decode b_Md_tellsOf 27 = .ok (.ireturn, 1) := by decide +kernel
def p_Md_tellsOf (n : Nat) (v1 : Int32) (v2 : Int32) (I : Nat → Int32) (R : Nat → Nat → Int32) : Option (Int32) := (if (R 1 5) = (-1) then some v2 else if ix (v1 + (R 1 5)) 890 then some (R 1 (v1 + (R 1 5)).toNatClampNeg) else none : Option (Int32)).bind fun x2 => some x2
set_option maxHeartbeats 4000000 in
theorem c_Md_tellsOf (l : Launch) (n : Nat) (v1 : Int32) (v2 : Int32) (I : Nat → Int32) (R : Nat → Nat → Int32)  : MMi l y_Md_tellsOf b_Md_tellsOf 3 .int (rL 5) (fun ad adK => [.int v1, .int v2]) I R ((p_Md_tellsOf n v1 v2 I R).map fun r => (r, I, R)) := by
  refine en_mi (by decide) rfl (fun _ _ => Nat.le_of_ble_eq_true rfl) ?_
  intro z hz p e s m args below meth c dC dI ad cI cZ A adK adV ls C hA h hr hlk hl
  have hl : lv_has ls 3 [(0, .ref (ad 0)), (1, .int v1), (2, .int v2)] := hl
  obtain ⟨z, hf, rfl⟩ := op_map hz
  unfold p_Md_tellsOf at hf
  obtain ⟨hx, hb, hml, hown, hT, -⟩ := id C
  refine lv_aload_n hx hb d_Md_tellsOf_0 rfl (lv_at hl 0 rfl) ?_
  refine mg_1 C h d_Md_tellsOf_1 ?_
  refine lv_iconst (v := 5) hx hb d_Md_tellsOf_4 (by decide) ?_
  refine ma_1 C h (j := 5) (by decide) (show ix 5 890 by decide) d_Md_tellsOf_5 ?_
  refine lv_iconst (v := (-1)) hx hb d_Md_tellsOf_6 (by decide) ?_
  obtain ⟨x2, he, hf⟩ := op_bind hf
  have K1 : ∀ (ls : Array Slot), lv_has ls 3 [] → ∀ (H : Heap) (locs : List Loc), mH A s.heap dC dI ad cI cZ I R H locs → W p l e (rL 5) s m args below meth c H locs 0 0 (mQi dC dI ad cI cZ A below args s (z, I, R)) (F0 m 27 ls [.int x2]) := by
    intro ls hl H locs h
    exact rt_mr C h hr hlk hf rfl d_Md_tellsOf_27
  have hf := he
  refine lv_icmp_ne (tgt := 14) hx hb d_Md_tellsOf_7 (by decide) (fun hc => ?_) (fun hc => ?_)
  · have hf := op_f hc hf
    refine lv_aload_n hx hb d_Md_tellsOf_14 rfl (lv_at hl 0 rfl) ?_
    refine mg_1 C h d_Md_tellsOf_15 ?_
    refine lv_iload_n hx hb d_Md_tellsOf_18 rfl (lv_at hl 1 rfl) ?_
    refine lv_aload_n hx hb d_Md_tellsOf_19 rfl (lv_at hl 0 rfl) ?_
    refine mg_1 C h d_Md_tellsOf_20 ?_
    refine lv_iconst (v := 5) hx hb d_Md_tellsOf_23 (by decide) ?_
    refine ma_1 C h (j := 5) (by decide) (show ix 5 890 by decide) d_Md_tellsOf_24 ?_
    refine lv_iadd hx hb d_Md_tellsOf_25 ?_
    obtain ⟨h3, hf⟩ := op_if hf
    refine ma_1 C h rfl h3 d_Md_tellsOf_26 ?_
    obtain rfl := op_i1 hf
    exact K1 ls (lv_sub hl [] rfl) s.heap [] h
  · have hf := op_t hc hf
    refine lv_iload_n hx hb d_Md_tellsOf_10 rfl (lv_at hl 2 rfl) ?_
    refine lv_goto (tgt := 27) hx hb d_Md_tellsOf_11 (by decide) ?_
    obtain rfl := op_i1 hf
    exact K1 ls (lv_sub hl [] rfl) s.heap [] h
theorem hd_Md_areHere : y_Md_areHere.cls ≠ "java/lang/invoke/MethodHandle" ∧ y_Md_areHere.cls ≠ "java/lang/invoke/VarHandle" ∧ (parseMethodDescriptor y_Md_areHere.desc).map (fun d => d.parameters.length) = some 3 := by decide +kernel
theorem d_Md_areHere_0 : decode b_Md_areHere 0 = .ok (.iload_n 2, 1) := by decide +kernel
theorem d_Md_areHere_1 : decode b_Md_areHere 1 = .ok (.iconst 1, 1) := by decide +kernel
theorem d_Md_areHere_2 : decode b_Md_areHere 2 = .ok (.if_icmp .ne 18, 3) := by decide +kernel
theorem d_Md_areHere_5 : decode b_Md_areHere 5 = .ok (.iload_n 0, 1) := by decide +kernel
theorem d_Md_areHere_6 : decode b_Md_areHere 6 = .ok (.iload_n 1, 1) := by decide +kernel
theorem d_Md_areHere_7 : decode b_Md_areHere 7 = .ok (.iand, 1) := by decide +kernel
theorem d_Md_areHere_8 : decode b_Md_areHere 8 = .ok (.iload_n 0, 1) := by decide +kernel
theorem d_Md_areHere_9 : decode b_Md_areHere 9 = .ok (.if_icmp .ne 7, 3) := by decide +kernel
theorem d_Md_areHere_12 : decode b_Md_areHere 12 = .ok (.iconst 1, 1) := by decide +kernel
theorem d_Md_areHere_13 : decode b_Md_areHere 13 = .ok (.goto 18, 3) := by decide +kernel
theorem d_Md_areHere_16 : decode b_Md_areHere 16 = .ok (.iconst 0, 1) := by decide +kernel
theorem d_Md_areHere_17 : decode b_Md_areHere 17 = .ok (.goto 14, 3) := by decide +kernel
theorem d_Md_areHere_20 : decode b_Md_areHere 20 = .ok (.iload_n 0, 1) := by decide +kernel
theorem d_Md_areHere_21 : decode b_Md_areHere 21 = .ok (.iload_n 1, 1) := by decide +kernel
theorem d_Md_areHere_22 : decode b_Md_areHere 22 = .ok (.iand, 1) := by decide +kernel
theorem d_Md_areHere_23 : decode b_Md_areHere 23 = .ok (.ifCond .ne 7, 3) := by decide +kernel
theorem d_Md_areHere_26 : decode b_Md_areHere 26 = .ok (.iconst 1, 1) := by decide +kernel
theorem d_Md_areHere_27 : decode b_Md_areHere 27 = .ok (.goto 4, 3) := by decide +kernel
theorem d_Md_areHere_30 : decode b_Md_areHere 30 = .ok (.iconst 0, 1) := by decide +kernel
theorem d_Md_areHere_31 : decode b_Md_areHere 31 = .ok (.ireturn, 1) := by decide +kernel
def p_Md_areHere (n : Nat) (v0 : Int32) (v1 : Int32) (v2 : Int32)  : Option (Int32) := (if v2 = 1 then (if (v0 &&& v1) = v0 then some 1 else some 0) else (if (v0 &&& v1) = 0 then some 1 else some 0) : Option (Int32)).bind fun x2 => if isZ x2 then some x2 else none
set_option maxHeartbeats 4000000 in
theorem c_Md_areHere (l : Launch) (n : Nat) (v0 : Int32) (v1 : Int32) (v2 : Int32)   : MSi l y_Md_areHere b_Md_areHere 3 .boolean (rL 5) [.int v0, .int v1, .int v2] (p_Md_areHere n v0 v1 v2 ) := by
  refine en_si (by decide) (Nat.le_of_ble_eq_true rfl) ?_
  intro z hf p e s m args below meth c ls hx hb hml hown hT hr hlk hl
  have hl : lv_has ls 3 [(0, .int v0), (1, .int v1), (2, .int v2)] := hl
  unfold p_Md_areHere at hf
  refine lv_iload_n hx hb d_Md_areHere_0 rfl (lv_at hl 2 rfl) ?_
  refine lv_iconst (v := 1) hx hb d_Md_areHere_1 (by decide) ?_
  obtain ⟨x2, he, hf⟩ := op_bind hf
  have K1 : ∀ (ls : Array Slot), lv_has ls 3 [] → W p l e (rL 5) s m args below meth c s.heap [] 0 0 (MQ below (fun _ st oc t => oc = .returned (some (.int z)) ∧ t.heap = st.heap) args s 0 0 (fun _ => False)) (F0 m 31 ls [.int x2]) := by
    intro ls hl
    obtain ⟨h3, hf⟩ := op_if hf
    obtain rfl := op_i1 hf
    exact rt_si hx hb hr hlk (isZ_nar h3) d_Md_areHere_31
  have hf := he
  refine lv_icmp_ne (tgt := 20) hx hb d_Md_areHere_2 (by decide) (fun hc => ?_) (fun hc => ?_)
  · have hf := op_f hc hf
    refine lv_iload_n hx hb d_Md_areHere_20 rfl (lv_at hl 0 rfl) ?_
    refine lv_iload_n hx hb d_Md_areHere_21 rfl (lv_at hl 1 rfl) ?_
    refine lv_iand hx hb d_Md_areHere_22 ?_
    refine lv_if_ne (tgt := 30) hx hb d_Md_areHere_23 (by decide) (fun hc => ?_) (fun hc => ?_)
    · have hf := op_f hc hf
      refine lv_iconst (v := 0) hx hb d_Md_areHere_30 (by decide) ?_
      obtain rfl := op_i1 hf
      exact K1 ls (lv_sub hl [] rfl)
    · have hf := op_t hc hf
      refine lv_iconst (v := 1) hx hb d_Md_areHere_26 (by decide) ?_
      refine lv_goto (tgt := 31) hx hb d_Md_areHere_27 (by decide) ?_
      obtain rfl := op_i1 hf
      exact K1 ls (lv_sub hl [] rfl)
  · have hf := op_t hc hf
    refine lv_iload_n hx hb d_Md_areHere_5 rfl (lv_at hl 0 rfl) ?_
    refine lv_iload_n hx hb d_Md_areHere_6 rfl (lv_at hl 1 rfl) ?_
    refine lv_iand hx hb d_Md_areHere_7 ?_
    refine lv_iload_n hx hb d_Md_areHere_8 rfl (lv_at hl 0 rfl) ?_
    refine lv_icmp_ne (tgt := 16) hx hb d_Md_areHere_9 (by decide) (fun hc => ?_) (fun hc => ?_)
    · have hf := op_f hc hf
      refine lv_iconst (v := 0) hx hb d_Md_areHere_16 (by decide) ?_
      refine lv_goto (tgt := 31) hx hb d_Md_areHere_17 (by decide) ?_
      obtain rfl := op_i1 hf
      exact K1 ls (lv_sub hl [] rfl)
    · have hf := op_t hc hf
      refine lv_iconst (v := 1) hx hb d_Md_areHere_12 (by decide) ?_
      refine lv_goto (tgt := 31) hx hb d_Md_areHere_13 (by decide) ?_
      obtain rfl := op_i1 hf
      exact K1 ls (lv_sub hl [] rfl)
theorem hd_Md_now : y_Md_now.cls ≠ "java/lang/invoke/MethodHandle" ∧ y_Md_now.cls ≠ "java/lang/invoke/VarHandle" ∧ (parseMethodDescriptor y_Md_now.desc).map (fun d => d.parameters.length) = some 0 := by decide +kernel
theorem d_Md_now_0 : decode b_Md_now 0 = .ok (.aload_n 0, 1) := by decide +kernel
theorem d_Md_now_1 : decode b_Md_now 1 = .ok (.getfield 9, 3) := by decide +kernel
theorem d_Md_now_4 : decode b_Md_now 4 = .ok (.bipush 9, 2) := by decide +kernel
theorem d_Md_now_6 : decode b_Md_now 6 = .ok (.iaload, 1) := by decide +kernel
theorem d_Md_now_7 : decode b_Md_now 7 = .ok (.bipush 64, 2) := by decide +kernel
theorem d_Md_now_9 : decode b_Md_now 9 = .ok (.aload_n 0, 1) := by decide +kernel
theorem d_Md_now_10 : decode b_Md_now 10 = .ok (.getfield 9, 3) := by decide +kernel
theorem d_Md_now_13 : decode b_Md_now 13 = .ok (.bipush 8, 2) := by decide +kernel
theorem d_Md_now_15 : decode b_Md_now 15 = .ok (.iaload, 1) := by decide +kernel
theorem d_Md_now_16 : decode b_Md_now 16 = .ok (.imul, 1) := by decide +kernel
theorem d_Md_now_17 : decode b_Md_now 17 = .ok (.iadd, 1) := by decide +kernel
theorem d_Md_now_18 : decode b_Md_now 18 = .ok (.ireturn, 1) := by decide +kernel
def p_Md_now (n : Nat)  (I : Nat → Int32) (R : Nat → Nat → Int32) : Option (Int32) := some (((R 1 9) + (64 * (R 1 8))))
set_option maxHeartbeats 4000000 in
theorem c_Md_now (l : Launch) (n : Nat)  (I : Nat → Int32) (R : Nat → Nat → Int32)  : MMi l y_Md_now b_Md_now 1 .int (rL 5) (fun ad adK => []) I R ((p_Md_now n I R).map fun r => (r, I, R)) := by
  refine en_mi (by decide) rfl (fun _ _ => Nat.le_of_ble_eq_true rfl) ?_
  intro z hz p e s m args below meth c dC dI ad cI cZ A adK adV ls C hA h hr hlk hl
  have hl : lv_has ls 1 [(0, .ref (ad 0))] := hl
  obtain ⟨z, hf, rfl⟩ := op_map hz
  unfold p_Md_now at hf
  obtain ⟨hx, hb, hml, hown, hT, -⟩ := id C
  refine lv_aload_n hx hb d_Md_now_0 rfl (lv_at hl 0 rfl) ?_
  refine mg_1 C h d_Md_now_1 ?_
  refine lv_bipush (v := 9) hx hb d_Md_now_4 (by decide) ?_
  refine ma_1 C h (j := 9) (by decide) (show ix 9 890 by decide) d_Md_now_6 ?_
  refine lv_bipush (v := 64) hx hb d_Md_now_7 (by decide) ?_
  refine lv_aload_n hx hb d_Md_now_9 rfl (lv_at hl 0 rfl) ?_
  refine mg_1 C h d_Md_now_10 ?_
  refine lv_bipush (v := 8) hx hb d_Md_now_13 (by decide) ?_
  refine ma_1 C h (j := 8) (by decide) (show ix 8 890 by decide) d_Md_now_15 ?_
  refine lv_imul hx hb d_Md_now_16 ?_
  refine lv_iadd hx hb d_Md_now_17 ?_
  exact rt_mr C h hr hlk hf rfl d_Md_now_18
theorem hd_Md_leastOf : y_Md_leastOf.cls ≠ "java/lang/invoke/MethodHandle" ∧ y_Md_leastOf.cls ≠ "java/lang/invoke/VarHandle" ∧ (parseMethodDescriptor y_Md_leastOf.desc).map (fun d => d.parameters.length) = some 2 := by decide +kernel
theorem d_Md_leastOf_0 : decode b_Md_leastOf 0 = .ok (.ldc 176, 2) := by decide +kernel
theorem d_Md_leastOf_2 : decode b_Md_leastOf 2 = .ok (.istore_n 3, 1) := by decide +kernel
theorem d_Md_leastOf_3 : decode b_Md_leastOf 3 = .ok (.iconst 0, 1) := by decide +kernel
theorem d_Md_leastOf_4 : decode b_Md_leastOf 4 = .ok (.istore 4, 2) := by decide +kernel
theorem d_Md_leastOf_6 : decode b_Md_leastOf 6 = .ok (.iload 4, 2) := by decide +kernel
theorem d_Md_leastOf_8 : decode b_Md_leastOf 8 = .ok (.sipush 128, 3) := by decide +kernel
theorem d_Md_leastOf_11 : decode b_Md_leastOf 11 = .ok (.if_icmp .ge 37, 3) := by decide +kernel
theorem d_Md_leastOf_14 : decode b_Md_leastOf 14 = .ok (.iload 4, 2) := by decide +kernel
theorem d_Md_leastOf_16 : decode b_Md_leastOf 16 = .ok (.bipush 64, 2) := by decide +kernel
theorem d_Md_leastOf_18 : decode b_Md_leastOf 18 = .ok (.irem, 1) := by decide +kernel
theorem d_Md_leastOf_19 : decode b_Md_leastOf 19 = .ok (.iload_n 1, 1) := by decide +kernel
theorem d_Md_leastOf_20 : decode b_Md_leastOf 20 = .ok (.iand, 1) := by decide +kernel
theorem d_Md_leastOf_21 : decode b_Md_leastOf 21 = .ok (.iload_n 1, 1) := by decide +kernel
theorem d_Md_leastOf_22 : decode b_Md_leastOf 22 = .ok (.if_icmp .ne 18, 3) := by decide +kernel
theorem d_Md_leastOf_25 : decode b_Md_leastOf 25 = .ok (.aload_n 2, 1) := by decide +kernel
theorem d_Md_leastOf_26 : decode b_Md_leastOf 26 = .ok (.iload 4, 2) := by decide +kernel
theorem d_Md_leastOf_28 : decode b_Md_leastOf 28 = .ok (.iaload, 1) := by decide +kernel
theorem d_Md_leastOf_29 : decode b_Md_leastOf 29 = .ok (.iload_n 3, 1) := by decide +kernel
theorem d_Md_leastOf_30 : decode b_Md_leastOf 30 = .ok (.if_icmp .ge 10, 3) := by decide +kernel
theorem d_Md_leastOf_33 : decode b_Md_leastOf 33 = .ok (.aload_n 2, 1) := by decide +kernel
theorem d_Md_leastOf_34 : decode b_Md_leastOf 34 = .ok (.iload 4, 2) := by decide +kernel
theorem d_Md_leastOf_36 : decode b_Md_leastOf 36 = .ok (.iaload, 1) := by decide +kernel
theorem d_Md_leastOf_37 : decode b_Md_leastOf 37 = .ok (.goto 4, 3) := by decide +kernel
theorem d_Md_leastOf_40 : decode b_Md_leastOf 40 = .ok (.iload_n 3, 1) := by decide +kernel
theorem d_Md_leastOf_41 : decode b_Md_leastOf 41 = .ok (.istore_n 3, 1) := by decide +kernel
theorem d_Md_leastOf_42 : decode b_Md_leastOf 42 = .ok (.iinc 4 1, 3) := by decide +kernel
theorem d_Md_leastOf_45 : decode b_Md_leastOf 45 = .ok (.goto (-39), 3) := by decide +kernel
theorem d_Md_leastOf_48 : decode b_Md_leastOf 48 = .ok (.iload_n 3, 1) := by decide +kernel
theorem d_Md_leastOf_49 : decode b_Md_leastOf 49 = .ok (.ireturn, 1) := by decide +kernel
def l_Md_leastOf_ad14_6 (n : Nat)  (v1 : Int32) (I : Nat → Int32) (R : Nat → Nat → Int32) : Nat → Int32 → Int32 → Option (Int32)
  | 0, _, _ => none
  | k + 1, v3, v4 => (if 128 ≤ v4 then some v3 else (if ((v4 - v4 / 64 * 64) &&& v1) = v1 then if ix v4 128 then (if v3 ≤ (R 14 v4.toNatClampNeg) then some v3 else if ix v4 128 then some (R 14 v4.toNatClampNeg) else none) else none else some v3 : Option (Int32)).bind fun x2 => l_Md_leastOf_ad14_6 n v1 I R k x2 (v4 + 1))
set_option maxHeartbeats 4000000 in
theorem wl_Md_leastOf_ad14_6 {Q : State → Prop}  {p : Program} {l : Launch} {e : Env} {s : State} {m : MethodId} {args : Array Value} {below : List Frame} {meth : Method} {c : Code} {dC : Nat → ClassId} {dI : Nat → Nat → Nat} {ad : Nat → Nat} {cI cZ : ClassId} {A : Nat → Prop} {adK adV : Nat → Nat} (C : mC p s m args c b_Md_leastOf 5 dC dI cI cZ A adK adV) (hA : ∀ q, s.heap.size ≤ q → A q) (hr : meth.sig.returnType = some .int) (hlk : meth.locks = false) (n : Nat)  (v1 : Int32) (I : Nat → Int32) (R : Nat → Nat → Int32) : ∀ (k : Nat) (v3 : Int32) (v4 : Int32) (r0 : Int32), l_Md_leastOf_ad14_6 n v1 I R k v3 v4 = some r0 → (∀ (ls : Array Slot), lv_has ls 5 [(3, .int r0)] → ∀ (H : Heap) (locs : List Loc), mH A s.heap dC dI ad cI cZ I R H locs → W p l e (rL 5) s m args below meth c H locs 0 0 Q (F0 m 48 ls [])) → ∀ (ls : Array Slot), lv_has ls 5 [(1, .int v1), (2, .ref (ad 14)), (3, .int v3), (4, .int v4)] → ∀ (H : Heap) (locs : List Loc), mH A s.heap dC dI ad cI cZ I R H locs → W p l e (rL 5) s m args below meth c H locs 0 0 Q (F0 m 6 ls []) := by
  obtain ⟨hx, hb, hml, hown, hT, -⟩ := id C
  intro k
  induction k with
  | zero => intro v3 v4 r0 hf; exact absurd hf (by unfold l_Md_leastOf_ad14_6; exact fun h9 => by cases h9)
  | succ k ih =>
    intro v3 v4 r0 hf K ls hl H locs h
    unfold l_Md_leastOf_ad14_6 at hf
    refine lv_iload hx hb d_Md_leastOf_6 (lv_at hl 3 rfl) ?_
    refine lv_sipush (v := 128) hx hb d_Md_leastOf_8 (by decide) ?_
    refine lv_icmp_ge (tgt := 48) hx hb d_Md_leastOf_11 (by decide) (fun hc => ?_) (fun hc => ?_)
    · have hf := op_t hc hf
      obtain rfl := op_i1 hf
      exact K ls (lv_sub hl [2] rfl) H locs h
    · have hf := op_f hc hf
      refine lv_iload hx hb d_Md_leastOf_14 (lv_at hl 3 rfl) ?_
      refine lv_bipush (v := 64) hx hb d_Md_leastOf_16 (by decide) ?_
      refine lv_irem hx hb d_Md_leastOf_18 (by decide) ?_
      refine lv_iload_n hx hb d_Md_leastOf_19 rfl (lv_at hl 0 rfl) ?_
      refine lv_iand hx hb d_Md_leastOf_20 ?_
      refine lv_iload_n hx hb d_Md_leastOf_21 rfl (lv_at hl 0 rfl) ?_
      obtain ⟨x2, he, hf⟩ := op_bind hf
      have K1 : ∀ (ls : Array Slot), lv_has ls 5 [(1, .int v1), (2, .ref (ad 14)), (4, .int v4)] → ∀ (H : Heap) (locs : List Loc), mH A s.heap dC dI ad cI cZ I R H locs → W p l e (rL 5) s m args below meth c H locs 0 0 Q (F0 m 41 ls [.int x2]) := by
        intro ls hl H locs h
        refine lv_istore_n (lv' := [(3, .int x2), (1, .int v1), (2, .ref (ad 14)), (4, .int v4)]) hx hb d_Md_leastOf_41 rfl hl (by decide) rfl (fun ls hl => ?_)
        refine lv_iinc (v := (v4 + 1)) (lv' := [(4, .int (v4 + 1)), (3, .int x2), (1, .int v1), (2, .ref (ad 14))]) hx hb d_Md_leastOf_42 hl (k := 3) rfl rfl (by decide) rfl (fun ls hl => ?_)
        refine lv_goto (tgt := 6) hx hb d_Md_leastOf_45 (by decide) ?_
        exact ih x2 (v4 + 1) _ hf K ls (lv_sub hl [2, 3, 1, 0] rfl) H locs h
      have hf := he
      refine lv_icmp_ne (tgt := 40) hx hb d_Md_leastOf_22 (by decide) (fun hc => ?_) (fun hc => ?_)
      · have hf := op_f hc hf
        refine lv_iload_n hx hb d_Md_leastOf_40 rfl (lv_at hl 2 rfl) ?_
        obtain rfl := op_i1 hf
        exact K1 ls (lv_sub hl [0, 1, 3] rfl) H locs h
      · have hf := op_t hc hf
        refine lv_aload_n hx hb d_Md_leastOf_25 rfl (lv_at hl 1 rfl) ?_
        refine lv_iload hx hb d_Md_leastOf_26 (lv_at hl 3 rfl) ?_
        obtain ⟨h3, hf⟩ := op_if hf
        refine ma_14 C h rfl h3 d_Md_leastOf_28 ?_
        refine lv_iload_n hx hb d_Md_leastOf_29 rfl (lv_at hl 2 rfl) ?_
        refine lv_icmp_ge (tgt := 40) hx hb d_Md_leastOf_30 (by decide) (fun hc => ?_) (fun hc => ?_)
        · have hf := op_t hc hf
          refine lv_iload_n hx hb d_Md_leastOf_40 rfl (lv_at hl 2 rfl) ?_
          obtain rfl := op_i1 hf
          exact K1 ls (lv_sub hl [0, 1, 3] rfl) H locs h
        · have hf := op_f hc hf
          refine lv_aload_n hx hb d_Md_leastOf_33 rfl (lv_at hl 1 rfl) ?_
          refine lv_iload hx hb d_Md_leastOf_34 (lv_at hl 3 rfl) ?_
          obtain ⟨h4, hf⟩ := op_if hf
          refine ma_14 C h rfl h4 d_Md_leastOf_36 ?_
          refine lv_goto (tgt := 41) hx hb d_Md_leastOf_37 (by decide) ?_
          obtain rfl := op_i1 hf
          exact K1 ls (lv_sub hl [0, 1, 3] rfl) H locs h
def p_Md_leastOf_ad14 (n : Nat) (v1 : Int32) (I : Nat → Int32) (R : Nat → Nat → Int32) : Option (Int32) := (l_Md_leastOf_ad14_6 n v1 I R n 1000000 0).bind fun y5 => some y5
set_option maxHeartbeats 4000000 in
theorem c_Md_leastOf_ad14 (l : Launch) (n : Nat) (v1 : Int32) (I : Nat → Int32) (R : Nat → Nat → Int32)  : MMi l y_Md_leastOf b_Md_leastOf 5 .int (rL 5) (fun ad adK => [.int v1, .ref (ad 14)]) I R ((p_Md_leastOf_ad14 n v1 I R).map fun r => (r, I, R)) := by
  refine en_mi (by decide) rfl (fun _ _ => Nat.le_of_ble_eq_true rfl) ?_
  intro z hz p e s m args below meth c dC dI ad cI cZ A adK adV ls C hA h hr hlk hl
  have hl : lv_has ls 5 [(0, .ref (ad 0)), (1, .int v1), (2, .ref (ad 14))] := hl
  obtain ⟨z, hf, rfl⟩ := op_map hz
  unfold p_Md_leastOf_ad14 at hf
  obtain ⟨hx, hb, hml, hown, hT, -⟩ := id C
  refine lv_ldc (v := 1000000) hx hb hown (hT _ ko_Md_176) d_Md_leastOf_0 ?_
  refine lv_istore_n (lv' := [(3, .int 1000000), (0, .ref (ad 0)), (1, .int v1), (2, .ref (ad 14))]) hx hb d_Md_leastOf_2 rfl hl (by decide) rfl (fun ls hl => ?_)
  refine lv_iconst (v := 0) hx hb d_Md_leastOf_3 (by decide) ?_
  refine lv_istore (lv' := [(4, .int 0), (3, .int 1000000), (0, .ref (ad 0)), (1, .int v1), (2, .ref (ad 14))]) hx hb d_Md_leastOf_4 hl (by decide) rfl (fun ls hl => ?_)
  obtain ⟨y5, he, hf⟩ := op_bind hf
  refine wl_Md_leastOf_ad14_6 C hA hr hlk n v1 I R n 1000000 0 _ he (fun ls hl H locs h => ?_) ls (lv_sub hl [3, 4, 1, 0] rfl) s.heap [] h
  refine lv_iload_n hx hb d_Md_leastOf_48 rfl (lv_at hl 0 rfl) ?_
  exact rt_mr C h hr hlk hf rfl d_Md_leastOf_49
def l_Md_leastOf_ad15_6 (n : Nat)  (v1 : Int32) (I : Nat → Int32) (R : Nat → Nat → Int32) : Nat → Int32 → Int32 → Option (Int32)
  | 0, _, _ => none
  | k + 1, v3, v4 => (if 128 ≤ v4 then some v3 else (if ((v4 - v4 / 64 * 64) &&& v1) = v1 then if ix v4 128 then (if v3 ≤ (R 15 v4.toNatClampNeg) then some v3 else if ix v4 128 then some (R 15 v4.toNatClampNeg) else none) else none else some v3 : Option (Int32)).bind fun x2 => l_Md_leastOf_ad15_6 n v1 I R k x2 (v4 + 1))
set_option maxHeartbeats 4000000 in
theorem wl_Md_leastOf_ad15_6 {Q : State → Prop}  {p : Program} {l : Launch} {e : Env} {s : State} {m : MethodId} {args : Array Value} {below : List Frame} {meth : Method} {c : Code} {dC : Nat → ClassId} {dI : Nat → Nat → Nat} {ad : Nat → Nat} {cI cZ : ClassId} {A : Nat → Prop} {adK adV : Nat → Nat} (C : mC p s m args c b_Md_leastOf 5 dC dI cI cZ A adK adV) (hA : ∀ q, s.heap.size ≤ q → A q) (hr : meth.sig.returnType = some .int) (hlk : meth.locks = false) (n : Nat)  (v1 : Int32) (I : Nat → Int32) (R : Nat → Nat → Int32) : ∀ (k : Nat) (v3 : Int32) (v4 : Int32) (r0 : Int32), l_Md_leastOf_ad15_6 n v1 I R k v3 v4 = some r0 → (∀ (ls : Array Slot), lv_has ls 5 [(3, .int r0)] → ∀ (H : Heap) (locs : List Loc), mH A s.heap dC dI ad cI cZ I R H locs → W p l e (rL 5) s m args below meth c H locs 0 0 Q (F0 m 48 ls [])) → ∀ (ls : Array Slot), lv_has ls 5 [(1, .int v1), (2, .ref (ad 15)), (3, .int v3), (4, .int v4)] → ∀ (H : Heap) (locs : List Loc), mH A s.heap dC dI ad cI cZ I R H locs → W p l e (rL 5) s m args below meth c H locs 0 0 Q (F0 m 6 ls []) := by
  obtain ⟨hx, hb, hml, hown, hT, -⟩ := id C
  intro k
  induction k with
  | zero => intro v3 v4 r0 hf; exact absurd hf (by unfold l_Md_leastOf_ad15_6; exact fun h9 => by cases h9)
  | succ k ih =>
    intro v3 v4 r0 hf K ls hl H locs h
    unfold l_Md_leastOf_ad15_6 at hf
    refine lv_iload hx hb d_Md_leastOf_6 (lv_at hl 3 rfl) ?_
    refine lv_sipush (v := 128) hx hb d_Md_leastOf_8 (by decide) ?_
    refine lv_icmp_ge (tgt := 48) hx hb d_Md_leastOf_11 (by decide) (fun hc => ?_) (fun hc => ?_)
    · have hf := op_t hc hf
      obtain rfl := op_i1 hf
      exact K ls (lv_sub hl [2] rfl) H locs h
    · have hf := op_f hc hf
      refine lv_iload hx hb d_Md_leastOf_14 (lv_at hl 3 rfl) ?_
      refine lv_bipush (v := 64) hx hb d_Md_leastOf_16 (by decide) ?_
      refine lv_irem hx hb d_Md_leastOf_18 (by decide) ?_
      refine lv_iload_n hx hb d_Md_leastOf_19 rfl (lv_at hl 0 rfl) ?_
      refine lv_iand hx hb d_Md_leastOf_20 ?_
      refine lv_iload_n hx hb d_Md_leastOf_21 rfl (lv_at hl 0 rfl) ?_
      obtain ⟨x2, he, hf⟩ := op_bind hf
      have K1 : ∀ (ls : Array Slot), lv_has ls 5 [(1, .int v1), (2, .ref (ad 15)), (4, .int v4)] → ∀ (H : Heap) (locs : List Loc), mH A s.heap dC dI ad cI cZ I R H locs → W p l e (rL 5) s m args below meth c H locs 0 0 Q (F0 m 41 ls [.int x2]) := by
        intro ls hl H locs h
        refine lv_istore_n (lv' := [(3, .int x2), (1, .int v1), (2, .ref (ad 15)), (4, .int v4)]) hx hb d_Md_leastOf_41 rfl hl (by decide) rfl (fun ls hl => ?_)
        refine lv_iinc (v := (v4 + 1)) (lv' := [(4, .int (v4 + 1)), (3, .int x2), (1, .int v1), (2, .ref (ad 15))]) hx hb d_Md_leastOf_42 hl (k := 3) rfl rfl (by decide) rfl (fun ls hl => ?_)
        refine lv_goto (tgt := 6) hx hb d_Md_leastOf_45 (by decide) ?_
        exact ih x2 (v4 + 1) _ hf K ls (lv_sub hl [2, 3, 1, 0] rfl) H locs h
      have hf := he
      refine lv_icmp_ne (tgt := 40) hx hb d_Md_leastOf_22 (by decide) (fun hc => ?_) (fun hc => ?_)
      · have hf := op_f hc hf
        refine lv_iload_n hx hb d_Md_leastOf_40 rfl (lv_at hl 2 rfl) ?_
        obtain rfl := op_i1 hf
        exact K1 ls (lv_sub hl [0, 1, 3] rfl) H locs h
      · have hf := op_t hc hf
        refine lv_aload_n hx hb d_Md_leastOf_25 rfl (lv_at hl 1 rfl) ?_
        refine lv_iload hx hb d_Md_leastOf_26 (lv_at hl 3 rfl) ?_
        obtain ⟨h3, hf⟩ := op_if hf
        refine ma_15 C h rfl h3 d_Md_leastOf_28 ?_
        refine lv_iload_n hx hb d_Md_leastOf_29 rfl (lv_at hl 2 rfl) ?_
        refine lv_icmp_ge (tgt := 40) hx hb d_Md_leastOf_30 (by decide) (fun hc => ?_) (fun hc => ?_)
        · have hf := op_t hc hf
          refine lv_iload_n hx hb d_Md_leastOf_40 rfl (lv_at hl 2 rfl) ?_
          obtain rfl := op_i1 hf
          exact K1 ls (lv_sub hl [0, 1, 3] rfl) H locs h
        · have hf := op_f hc hf
          refine lv_aload_n hx hb d_Md_leastOf_33 rfl (lv_at hl 1 rfl) ?_
          refine lv_iload hx hb d_Md_leastOf_34 (lv_at hl 3 rfl) ?_
          obtain ⟨h4, hf⟩ := op_if hf
          refine ma_15 C h rfl h4 d_Md_leastOf_36 ?_
          refine lv_goto (tgt := 41) hx hb d_Md_leastOf_37 (by decide) ?_
          obtain rfl := op_i1 hf
          exact K1 ls (lv_sub hl [0, 1, 3] rfl) H locs h
def p_Md_leastOf_ad15 (n : Nat) (v1 : Int32) (I : Nat → Int32) (R : Nat → Nat → Int32) : Option (Int32) := (l_Md_leastOf_ad15_6 n v1 I R n 1000000 0).bind fun y5 => some y5
set_option maxHeartbeats 4000000 in
theorem c_Md_leastOf_ad15 (l : Launch) (n : Nat) (v1 : Int32) (I : Nat → Int32) (R : Nat → Nat → Int32)  : MMi l y_Md_leastOf b_Md_leastOf 5 .int (rL 5) (fun ad adK => [.int v1, .ref (ad 15)]) I R ((p_Md_leastOf_ad15 n v1 I R).map fun r => (r, I, R)) := by
  refine en_mi (by decide) rfl (fun _ _ => Nat.le_of_ble_eq_true rfl) ?_
  intro z hz p e s m args below meth c dC dI ad cI cZ A adK adV ls C hA h hr hlk hl
  have hl : lv_has ls 5 [(0, .ref (ad 0)), (1, .int v1), (2, .ref (ad 15))] := hl
  obtain ⟨z, hf, rfl⟩ := op_map hz
  unfold p_Md_leastOf_ad15 at hf
  obtain ⟨hx, hb, hml, hown, hT, -⟩ := id C
  refine lv_ldc (v := 1000000) hx hb hown (hT _ ko_Md_176) d_Md_leastOf_0 ?_
  refine lv_istore_n (lv' := [(3, .int 1000000), (0, .ref (ad 0)), (1, .int v1), (2, .ref (ad 15))]) hx hb d_Md_leastOf_2 rfl hl (by decide) rfl (fun ls hl => ?_)
  refine lv_iconst (v := 0) hx hb d_Md_leastOf_3 (by decide) ?_
  refine lv_istore (lv' := [(4, .int 0), (3, .int 1000000), (0, .ref (ad 0)), (1, .int v1), (2, .ref (ad 15))]) hx hb d_Md_leastOf_4 hl (by decide) rfl (fun ls hl => ?_)
  obtain ⟨y5, he, hf⟩ := op_bind hf
  refine wl_Md_leastOf_ad15_6 C hA hr hlk n v1 I R n 1000000 0 _ he (fun ls hl H locs h => ?_) ls (lv_sub hl [3, 4, 1, 0] rfl) s.heap [] h
  refine lv_iload_n hx hb d_Md_leastOf_48 rfl (lv_at hl 0 rfl) ?_
  exact rt_mr C h hr hlk hf rfl d_Md_leastOf_49
theorem hd_Md_orNone : y_Md_orNone.cls ≠ "java/lang/invoke/MethodHandle" ∧ y_Md_orNone.cls ≠ "java/lang/invoke/VarHandle" ∧ (parseMethodDescriptor y_Md_orNone.desc).map (fun d => d.parameters.length) = some 1 := by decide +kernel
theorem d_Md_orNone_0 : decode b_Md_orNone 0 = .ok (.iload_n 0, 1) := by decide +kernel
theorem d_Md_orNone_1 : decode b_Md_orNone 1 = .ok (.ldc 176, 2) := by decide +kernel
theorem d_Md_orNone_3 : decode b_Md_orNone 3 = .ok (.if_icmp .ne 8, 3) := by decide +kernel
theorem d_Md_orNone_6 : decode b_Md_orNone 6 = .ok (.bipush (-5), 2) := by decide +kernel
theorem d_Md_orNone_8 : decode b_Md_orNone 8 = .ok (.goto 4, 3) := by decide +kernel
theorem d_Md_orNone_11 : decode b_Md_orNone 11 = .ok (.iload_n 0, 1) := by decide +kernel
theorem d_Md_orNone_12 : decode b_Md_orNone 12 = .ok (.ireturn, 1) := by decide +kernel
def p_Md_orNone (n : Nat) (v0 : Int32)  : Option (Int32) := (if v0 = 1000000 then some (-5) else some v0 : Option (Int32)).bind fun x2 => some x2
set_option maxHeartbeats 4000000 in
theorem c_Md_orNone (l : Launch) (n : Nat) (v0 : Int32)   : MSi l y_Md_orNone b_Md_orNone 1 .int (rL 5) [.int v0] (p_Md_orNone n v0 ) := by
  refine en_si (by decide) (Nat.le_of_ble_eq_true rfl) ?_
  intro z hf p e s m args below meth c ls hx hb hml hown hT hr hlk hl
  have hl : lv_has ls 1 [(0, .int v0)] := hl
  unfold p_Md_orNone at hf
  refine lv_iload_n hx hb d_Md_orNone_0 rfl (lv_at hl 0 rfl) ?_
  refine lv_ldc (v := 1000000) hx hb hown (hT _ ko_Md_176) d_Md_orNone_1 ?_
  obtain ⟨x2, he, hf⟩ := op_bind hf
  have K1 : ∀ (ls : Array Slot), lv_has ls 1 [] → W p l e (rL 5) s m args below meth c s.heap [] 0 0 (MQ below (fun _ st oc t => oc = .returned (some (.int z)) ∧ t.heap = st.heap) args s 0 0 (fun _ => False)) (F0 m 12 ls [.int x2]) := by
    intro ls hl
    obtain rfl := op_i1 hf
    exact rt_si hx hb hr hlk rfl d_Md_orNone_12
  have hf := he
  refine lv_icmp_ne (tgt := 11) hx hb d_Md_orNone_3 (by decide) (fun hc => ?_) (fun hc => ?_)
  · have hf := op_f hc hf
    refine lv_iload_n hx hb d_Md_orNone_11 rfl (lv_at hl 0 rfl) ?_
    obtain rfl := op_i1 hf
    exact K1 ls (lv_sub hl [] rfl)
  · have hf := op_t hc hf
    refine lv_bipush (v := (-5)) hx hb d_Md_orNone_6 (by decide) ?_
    refine lv_goto (tgt := 12) hx hb d_Md_orNone_8 (by decide) ?_
    obtain rfl := op_i1 hf
    exact K1 ls (lv_sub hl [] rfl)
theorem hd_Md_isAhead : y_Md_isAhead.cls ≠ "java/lang/invoke/MethodHandle" ∧ y_Md_isAhead.cls ≠ "java/lang/invoke/VarHandle" ∧ (parseMethodDescriptor y_Md_isAhead.desc).map (fun d => d.parameters.length) = some 2 := by decide +kernel
theorem d_Md_isAhead_0 : decode b_Md_isAhead 0 = .ok (.aload_n 0, 1) := by decide +kernel
theorem d_Md_isAhead_1 : decode b_Md_isAhead 1 = .ok (.getfield 9, 3) := by decide +kernel
theorem d_Md_isAhead_4 : decode b_Md_isAhead 4 = .ok (.bipush 22, 2) := by decide +kernel
theorem d_Md_isAhead_6 : decode b_Md_isAhead 6 = .ok (.iload_n 1, 1) := by decide +kernel
theorem d_Md_isAhead_7 : decode b_Md_isAhead 7 = .ok (.iadd, 1) := by decide +kernel
theorem d_Md_isAhead_8 : decode b_Md_isAhead 8 = .ok (.iaload, 1) := by decide +kernel
theorem d_Md_isAhead_9 : decode b_Md_isAhead 9 = .ok (.aload_n 0, 1) := by decide +kernel
theorem d_Md_isAhead_10 : decode b_Md_isAhead 10 = .ok (.getfield 9, 3) := by decide +kernel
theorem d_Md_isAhead_13 : decode b_Md_isAhead 13 = .ok (.bipush 22, 2) := by decide +kernel
theorem d_Md_isAhead_15 : decode b_Md_isAhead 15 = .ok (.iload_n 2, 1) := by decide +kernel
theorem d_Md_isAhead_16 : decode b_Md_isAhead 16 = .ok (.iadd, 1) := by decide +kernel
theorem d_Md_isAhead_17 : decode b_Md_isAhead 17 = .ok (.iaload, 1) := by decide +kernel
theorem d_Md_isAhead_18 : decode b_Md_isAhead 18 = .ok (.if_icmp .lt 29, 3) := by decide +kernel
theorem d_Md_isAhead_21 : decode b_Md_isAhead 21 = .ok (.aload_n 0, 1) := by decide +kernel
theorem d_Md_isAhead_22 : decode b_Md_isAhead 22 = .ok (.getfield 9, 3) := by decide +kernel
theorem d_Md_isAhead_25 : decode b_Md_isAhead 25 = .ok (.bipush 22, 2) := by decide +kernel
theorem d_Md_isAhead_27 : decode b_Md_isAhead 27 = .ok (.iload_n 1, 1) := by decide +kernel
theorem d_Md_isAhead_28 : decode b_Md_isAhead 28 = .ok (.iadd, 1) := by decide +kernel
theorem d_Md_isAhead_29 : decode b_Md_isAhead 29 = .ok (.iaload, 1) := by decide +kernel
theorem d_Md_isAhead_30 : decode b_Md_isAhead 30 = .ok (.aload_n 0, 1) := by decide +kernel
theorem d_Md_isAhead_31 : decode b_Md_isAhead 31 = .ok (.getfield 9, 3) := by decide +kernel
theorem d_Md_isAhead_34 : decode b_Md_isAhead 34 = .ok (.bipush 22, 2) := by decide +kernel
theorem d_Md_isAhead_36 : decode b_Md_isAhead 36 = .ok (.iload_n 2, 1) := by decide +kernel
theorem d_Md_isAhead_37 : decode b_Md_isAhead 37 = .ok (.iadd, 1) := by decide +kernel
theorem d_Md_isAhead_38 : decode b_Md_isAhead 38 = .ok (.iaload, 1) := by decide +kernel
theorem d_Md_isAhead_39 : decode b_Md_isAhead 39 = .ok (.if_icmp .ne 12, 3) := by decide +kernel
theorem d_Md_isAhead_42 : decode b_Md_isAhead 42 = .ok (.iload_n 1, 1) := by decide +kernel
theorem d_Md_isAhead_43 : decode b_Md_isAhead 43 = .ok (.iload_n 2, 1) := by decide +kernel
theorem d_Md_isAhead_44 : decode b_Md_isAhead 44 = .ok (.if_icmp .ge 7, 3) := by decide +kernel
theorem d_Md_isAhead_47 : decode b_Md_isAhead 47 = .ok (.iconst 1, 1) := by decide +kernel
theorem d_Md_isAhead_48 : decode b_Md_isAhead 48 = .ok (.goto 4, 3) := by decide +kernel
theorem d_Md_isAhead_51 : decode b_Md_isAhead 51 = .ok (.iconst 0, 1) := by decide +kernel
theorem d_Md_isAhead_52 : decode b_Md_isAhead 52 = .ok (.ireturn, 1) := by decide +kernel
def p_Md_isAhead (n : Nat) (v1 : Int32) (v2 : Int32) (I : Nat → Int32) (R : Nat → Nat → Int32) : Option (Int32) := if ix (22 + v1) 890 then if ix (22 + v2) 890 then (if (R 1 (22 + v1).toNatClampNeg) < (R 1 (22 + v2).toNatClampNeg) then some 1 else if ix (22 + v1) 890 then if ix (22 + v2) 890 then (if (R 1 (22 + v1).toNatClampNeg) = (R 1 (22 + v2).toNatClampNeg) then (if v2 ≤ v1 then some 0 else some 1) else some 0) else none else none : Option (Int32)).bind fun x4 => if isZ x4 then some x4 else none else none else none
set_option maxHeartbeats 4000000 in
theorem c_Md_isAhead (l : Launch) (n : Nat) (v1 : Int32) (v2 : Int32) (I : Nat → Int32) (R : Nat → Nat → Int32)  : MMi l y_Md_isAhead b_Md_isAhead 3 .boolean (rL 5) (fun ad adK => [.int v1, .int v2]) I R ((p_Md_isAhead n v1 v2 I R).map fun r => (r, I, R)) := by
  refine en_mi (by decide) rfl (fun _ _ => Nat.le_of_ble_eq_true rfl) ?_
  intro z hz p e s m args below meth c dC dI ad cI cZ A adK adV ls C hA h hr hlk hl
  have hl : lv_has ls 3 [(0, .ref (ad 0)), (1, .int v1), (2, .int v2)] := hl
  obtain ⟨z, hf, rfl⟩ := op_map hz
  unfold p_Md_isAhead at hf
  obtain ⟨hx, hb, hml, hown, hT, -⟩ := id C
  refine lv_aload_n hx hb d_Md_isAhead_0 rfl (lv_at hl 0 rfl) ?_
  refine mg_1 C h d_Md_isAhead_1 ?_
  refine lv_bipush (v := 22) hx hb d_Md_isAhead_4 (by decide) ?_
  refine lv_iload_n hx hb d_Md_isAhead_6 rfl (lv_at hl 1 rfl) ?_
  refine lv_iadd hx hb d_Md_isAhead_7 ?_
  obtain ⟨h1, hf⟩ := op_if hf
  refine ma_1 C h rfl h1 d_Md_isAhead_8 ?_
  refine lv_aload_n hx hb d_Md_isAhead_9 rfl (lv_at hl 0 rfl) ?_
  refine mg_1 C h d_Md_isAhead_10 ?_
  refine lv_bipush (v := 22) hx hb d_Md_isAhead_13 (by decide) ?_
  refine lv_iload_n hx hb d_Md_isAhead_15 rfl (lv_at hl 2 rfl) ?_
  refine lv_iadd hx hb d_Md_isAhead_16 ?_
  obtain ⟨h2, hf⟩ := op_if hf
  refine ma_1 C h rfl h2 d_Md_isAhead_17 ?_
  obtain ⟨x4, he, hf⟩ := op_bind hf
  have K3 : ∀ (ls : Array Slot), lv_has ls 3 [] → ∀ (H : Heap) (locs : List Loc), mH A s.heap dC dI ad cI cZ I R H locs → W p l e (rL 5) s m args below meth c H locs 0 0 (mQi dC dI ad cI cZ A below args s (z, I, R)) (F0 m 52 ls [.int x4]) := by
    intro ls hl H locs h
    obtain ⟨h7, hf⟩ := op_if hf
    exact rt_mr C h hr hlk hf (isZ_nar h7) d_Md_isAhead_52
  have hf := he
  refine lv_icmp_lt (tgt := 47) hx hb d_Md_isAhead_18 (by decide) (fun hc => ?_) (fun hc => ?_)
  · have hf := op_t hc hf
    refine lv_iconst (v := 1) hx hb d_Md_isAhead_47 (by decide) ?_
    refine lv_goto (tgt := 52) hx hb d_Md_isAhead_48 (by decide) ?_
    obtain rfl := op_i1 hf
    exact K3 ls (lv_sub hl [] rfl) s.heap [] h
  · have hf := op_f hc hf
    refine lv_aload_n hx hb d_Md_isAhead_21 rfl (lv_at hl 0 rfl) ?_
    refine mg_1 C h d_Md_isAhead_22 ?_
    refine lv_bipush (v := 22) hx hb d_Md_isAhead_25 (by decide) ?_
    refine lv_iload_n hx hb d_Md_isAhead_27 rfl (lv_at hl 1 rfl) ?_
    refine lv_iadd hx hb d_Md_isAhead_28 ?_
    obtain ⟨h5, hf⟩ := op_if hf
    refine ma_1 C h rfl h5 d_Md_isAhead_29 ?_
    refine lv_aload_n hx hb d_Md_isAhead_30 rfl (lv_at hl 0 rfl) ?_
    refine mg_1 C h d_Md_isAhead_31 ?_
    refine lv_bipush (v := 22) hx hb d_Md_isAhead_34 (by decide) ?_
    refine lv_iload_n hx hb d_Md_isAhead_36 rfl (lv_at hl 2 rfl) ?_
    refine lv_iadd hx hb d_Md_isAhead_37 ?_
    obtain ⟨h6, hf⟩ := op_if hf
    refine ma_1 C h rfl h6 d_Md_isAhead_38 ?_
    refine lv_icmp_ne (tgt := 51) hx hb d_Md_isAhead_39 (by decide) (fun hc => ?_) (fun hc => ?_)
    · have hf := op_f hc hf
      refine lv_iconst (v := 0) hx hb d_Md_isAhead_51 (by decide) ?_
      obtain rfl := op_i1 hf
      exact K3 ls (lv_sub hl [] rfl) s.heap [] h
    · have hf := op_t hc hf
      refine lv_iload_n hx hb d_Md_isAhead_42 rfl (lv_at hl 1 rfl) ?_
      refine lv_iload_n hx hb d_Md_isAhead_43 rfl (lv_at hl 2 rfl) ?_
      refine lv_icmp_ge (tgt := 51) hx hb d_Md_isAhead_44 (by decide) (fun hc => ?_) (fun hc => ?_)
      · have hf := op_t hc hf
        refine lv_iconst (v := 0) hx hb d_Md_isAhead_51 (by decide) ?_
        obtain rfl := op_i1 hf
        exact K3 ls (lv_sub hl [] rfl) s.heap [] h
      · have hf := op_f hc hf
        refine lv_iconst (v := 1) hx hb d_Md_isAhead_47 (by decide) ?_
        refine lv_goto (tgt := 52) hx hb d_Md_isAhead_48 (by decide) ?_
        obtain rfl := op_i1 hf
        exact K3 ls (lv_sub hl [] rfl) s.heap [] h
theorem hd_Md_leastTwo : y_Md_leastTwo.cls ≠ "java/lang/invoke/MethodHandle" ∧ y_Md_leastTwo.cls ≠ "java/lang/invoke/VarHandle" ∧ (parseMethodDescriptor y_Md_leastTwo.desc).map (fun d => d.parameters.length) = some 1 := by decide +kernel
theorem d_Md_leastTwo_0 : decode b_Md_leastTwo 0 = .ok (.iload_n 1, 1) := by decide +kernel
theorem d_Md_leastTwo_1 : decode b_Md_leastTwo 1 = .ok (.iload_n 1, 1) := by decide +kernel
theorem d_Md_leastTwo_2 : decode b_Md_leastTwo 2 = .ok (.ineg, 1) := by decide +kernel
theorem d_Md_leastTwo_3 : decode b_Md_leastTwo 3 = .ok (.iand, 1) := by decide +kernel
theorem d_Md_leastTwo_4 : decode b_Md_leastTwo 4 = .ok (.istore_n 2, 1) := by decide +kernel
theorem d_Md_leastTwo_5 : decode b_Md_leastTwo 5 = .ok (.iload_n 1, 1) := by decide +kernel
theorem d_Md_leastTwo_6 : decode b_Md_leastTwo 6 = .ok (.iload_n 2, 1) := by decide +kernel
theorem d_Md_leastTwo_7 : decode b_Md_leastTwo 7 = .ok (.iconst (-1), 1) := by decide +kernel
theorem d_Md_leastTwo_8 : decode b_Md_leastTwo 8 = .ok (.ixor, 1) := by decide +kernel
theorem d_Md_leastTwo_9 : decode b_Md_leastTwo 9 = .ok (.iand, 1) := by decide +kernel
theorem d_Md_leastTwo_10 : decode b_Md_leastTwo 10 = .ok (.istore_n 3, 1) := by decide +kernel
theorem d_Md_leastTwo_11 : decode b_Md_leastTwo 11 = .ok (.iload_n 2, 1) := by decide +kernel
theorem d_Md_leastTwo_12 : decode b_Md_leastTwo 12 = .ok (.iload_n 3, 1) := by decide +kernel
theorem d_Md_leastTwo_13 : decode b_Md_leastTwo 13 = .ok (.iload_n 3, 1) := by decide +kernel
theorem d_Md_leastTwo_14 : decode b_Md_leastTwo 14 = .ok (.ineg, 1) := by decide +kernel
theorem d_Md_leastTwo_15 : decode b_Md_leastTwo 15 = .ok (.iand, 1) := by decide +kernel
theorem d_Md_leastTwo_16 : decode b_Md_leastTwo 16 = .ok (.ior, 1) := by decide +kernel
theorem d_Md_leastTwo_17 : decode b_Md_leastTwo 17 = .ok (.ireturn, 1) := by decide +kernel
def p_Md_leastTwo (n : Nat) (v1 : Int32) (I : Nat → Int32) (R : Nat → Nat → Int32) : Option (Int32) := some (((v1 &&& (-v1)) ||| ((v1 &&& ((v1 &&& (-v1)) ^^^ (-1))) &&& (-(v1 &&& ((v1 &&& (-v1)) ^^^ (-1)))))))
set_option maxHeartbeats 4000000 in
theorem c_Md_leastTwo (l : Launch) (n : Nat) (v1 : Int32) (I : Nat → Int32) (R : Nat → Nat → Int32)  : MMi l y_Md_leastTwo b_Md_leastTwo 4 .int (rL 5) (fun ad adK => [.int v1]) I R ((p_Md_leastTwo n v1 I R).map fun r => (r, I, R)) := by
  refine en_mi (by decide) rfl (fun _ _ => Nat.le_of_ble_eq_true rfl) ?_
  intro z hz p e s m args below meth c dC dI ad cI cZ A adK adV ls C hA h hr hlk hl
  have hl : lv_has ls 4 [(0, .ref (ad 0)), (1, .int v1)] := hl
  obtain ⟨z, hf, rfl⟩ := op_map hz
  unfold p_Md_leastTwo at hf
  obtain ⟨hx, hb, hml, hown, hT, -⟩ := id C
  refine lv_iload_n hx hb d_Md_leastTwo_0 rfl (lv_at hl 1 rfl) ?_
  refine lv_iload_n hx hb d_Md_leastTwo_1 rfl (lv_at hl 1 rfl) ?_
  refine lv_ineg hx hb d_Md_leastTwo_2 ?_
  refine lv_iand hx hb d_Md_leastTwo_3 ?_
  refine lv_istore_n (lv' := [(2, .int (v1 &&& (-v1))), (0, .ref (ad 0)), (1, .int v1)]) hx hb d_Md_leastTwo_4 rfl hl (by decide) rfl (fun ls hl => ?_)
  refine lv_iload_n hx hb d_Md_leastTwo_5 rfl (lv_at hl 2 rfl) ?_
  refine lv_iload_n hx hb d_Md_leastTwo_6 rfl (lv_at hl 0 rfl) ?_
  refine lv_iconst (v := (-1)) hx hb d_Md_leastTwo_7 (by decide) ?_
  refine lv_ixor hx hb d_Md_leastTwo_8 ?_
  refine lv_iand hx hb d_Md_leastTwo_9 ?_
  refine lv_istore_n (lv' := [(3, .int (v1 &&& ((v1 &&& (-v1)) ^^^ (-1)))), (2, .int (v1 &&& (-v1))), (0, .ref (ad 0)), (1, .int v1)]) hx hb d_Md_leastTwo_10 rfl hl (by decide) rfl (fun ls hl => ?_)
  refine lv_iload_n hx hb d_Md_leastTwo_11 rfl (lv_at hl 1 rfl) ?_
  refine lv_iload_n hx hb d_Md_leastTwo_12 rfl (lv_at hl 0 rfl) ?_
  refine lv_iload_n hx hb d_Md_leastTwo_13 rfl (lv_at hl 0 rfl) ?_
  refine lv_ineg hx hb d_Md_leastTwo_14 ?_
  refine lv_iand hx hb d_Md_leastTwo_15 ?_
  refine lv_ior hx hb d_Md_leastTwo_16 ?_
  exact rt_mr C h hr hlk hf rfl d_Md_leastTwo_17
theorem hd_Md_mostOf : y_Md_mostOf.cls ≠ "java/lang/invoke/MethodHandle" ∧ y_Md_mostOf.cls ≠ "java/lang/invoke/VarHandle" ∧ (parseMethodDescriptor y_Md_mostOf.desc).map (fun d => d.parameters.length) = some 1 := by decide +kernel
theorem d_Md_mostOf_0 : decode b_Md_mostOf 0 = .ok (.bipush 99, 2) := by decide +kernel
theorem d_Md_mostOf_2 : decode b_Md_mostOf 2 = .ok (.istore_n 2, 1) := by decide +kernel
theorem d_Md_mostOf_3 : decode b_Md_mostOf 3 = .ok (.iconst 0, 1) := by decide +kernel
theorem d_Md_mostOf_4 : decode b_Md_mostOf 4 = .ok (.istore_n 3, 1) := by decide +kernel
theorem d_Md_mostOf_5 : decode b_Md_mostOf 5 = .ok (.iload_n 3, 1) := by decide +kernel
theorem d_Md_mostOf_6 : decode b_Md_mostOf 6 = .ok (.aload_n 0, 1) := by decide +kernel
theorem d_Md_mostOf_7 : decode b_Md_mostOf 7 = .ok (.getfield 9, 3) := by decide +kernel
theorem d_Md_mostOf_10 : decode b_Md_mostOf 10 = .ok (.iconst 2, 1) := by decide +kernel
theorem d_Md_mostOf_11 : decode b_Md_mostOf 11 = .ok (.iaload, 1) := by decide +kernel
theorem d_Md_mostOf_12 : decode b_Md_mostOf 12 = .ok (.if_icmp .ge 53, 3) := by decide +kernel
theorem d_Md_mostOf_15 : decode b_Md_mostOf 15 = .ok (.aload_n 0, 1) := by decide +kernel
theorem d_Md_mostOf_16 : decode b_Md_mostOf 16 = .ok (.getfield 9, 3) := by decide +kernel
theorem d_Md_mostOf_19 : decode b_Md_mostOf 19 = .ok (.bipush 34, 2) := by decide +kernel
theorem d_Md_mostOf_21 : decode b_Md_mostOf 21 = .ok (.iload_n 3, 1) := by decide +kernel
theorem d_Md_mostOf_22 : decode b_Md_mostOf 22 = .ok (.iadd, 1) := by decide +kernel
theorem d_Md_mostOf_23 : decode b_Md_mostOf 23 = .ok (.iaload, 1) := by decide +kernel
theorem d_Md_mostOf_24 : decode b_Md_mostOf 24 = .ok (.iload_n 1, 1) := by decide +kernel
theorem d_Md_mostOf_25 : decode b_Md_mostOf 25 = .ok (.ishr, 1) := by decide +kernel
theorem d_Md_mostOf_26 : decode b_Md_mostOf 26 = .ok (.iconst 1, 1) := by decide +kernel
theorem d_Md_mostOf_27 : decode b_Md_mostOf 27 = .ok (.iand, 1) := by decide +kernel
theorem d_Md_mostOf_28 : decode b_Md_mostOf 28 = .ok (.iconst 1, 1) := by decide +kernel
theorem d_Md_mostOf_29 : decode b_Md_mostOf 29 = .ok (.if_icmp .ne 28, 3) := by decide +kernel
theorem d_Md_mostOf_32 : decode b_Md_mostOf 32 = .ok (.aload_n 0, 1) := by decide +kernel
theorem d_Md_mostOf_33 : decode b_Md_mostOf 33 = .ok (.getfield 9, 3) := by decide +kernel
theorem d_Md_mostOf_36 : decode b_Md_mostOf 36 = .ok (.bipush 46, 2) := by decide +kernel
theorem d_Md_mostOf_38 : decode b_Md_mostOf 38 = .ok (.iload_n 3, 1) := by decide +kernel
theorem d_Md_mostOf_39 : decode b_Md_mostOf 39 = .ok (.iadd, 1) := by decide +kernel
theorem d_Md_mostOf_40 : decode b_Md_mostOf 40 = .ok (.iaload, 1) := by decide +kernel
theorem d_Md_mostOf_41 : decode b_Md_mostOf 41 = .ok (.iload_n 2, 1) := by decide +kernel
theorem d_Md_mostOf_42 : decode b_Md_mostOf 42 = .ok (.if_icmp .ge 15, 3) := by decide +kernel
theorem d_Md_mostOf_45 : decode b_Md_mostOf 45 = .ok (.aload_n 0, 1) := by decide +kernel
theorem d_Md_mostOf_46 : decode b_Md_mostOf 46 = .ok (.getfield 9, 3) := by decide +kernel
theorem d_Md_mostOf_49 : decode b_Md_mostOf 49 = .ok (.bipush 46, 2) := by decide +kernel
theorem d_Md_mostOf_51 : decode b_Md_mostOf 51 = .ok (.iload_n 3, 1) := by decide +kernel
theorem d_Md_mostOf_52 : decode b_Md_mostOf 52 = .ok (.iadd, 1) := by decide +kernel
theorem d_Md_mostOf_53 : decode b_Md_mostOf 53 = .ok (.iaload, 1) := by decide +kernel
theorem d_Md_mostOf_54 : decode b_Md_mostOf 54 = .ok (.goto 4, 3) := by decide +kernel
theorem d_Md_mostOf_57 : decode b_Md_mostOf 57 = .ok (.iload_n 2, 1) := by decide +kernel
theorem d_Md_mostOf_58 : decode b_Md_mostOf 58 = .ok (.istore_n 2, 1) := by decide +kernel
theorem d_Md_mostOf_59 : decode b_Md_mostOf 59 = .ok (.iinc 3 1, 3) := by decide +kernel
theorem d_Md_mostOf_62 : decode b_Md_mostOf 62 = .ok (.goto (-57), 3) := by decide +kernel
theorem d_Md_mostOf_65 : decode b_Md_mostOf 65 = .ok (.iload_n 2, 1) := by decide +kernel
theorem d_Md_mostOf_66 : decode b_Md_mostOf 66 = .ok (.ireturn, 1) := by decide +kernel
def l_Md_mostOf_5 (n : Nat)  (v1 : Int32) (I : Nat → Int32) (R : Nat → Nat → Int32) : Nat → Int32 → Int32 → Option (Int32)
  | 0, _, _ => none
  | k + 1, v2, v3 => (if (R 1 2) ≤ v3 then some v2 else if ix (34 + v3) 890 then (if (((R 1 (34 + v3).toNatClampNeg) >>> (v1 &&& 31)) &&& 1) = 1 then if ix (46 + v3) 890 then (if v2 ≤ (R 1 (46 + v3).toNatClampNeg) then some v2 else if ix (46 + v3) 890 then some (R 1 (46 + v3).toNatClampNeg) else none) else none else some v2 : Option (Int32)).bind fun x3 => l_Md_mostOf_5 n v1 I R k x3 (v3 + 1) else none)
set_option maxHeartbeats 4000000 in
theorem wl_Md_mostOf_5 {Q : State → Prop}  {p : Program} {l : Launch} {e : Env} {s : State} {m : MethodId} {args : Array Value} {below : List Frame} {meth : Method} {c : Code} {dC : Nat → ClassId} {dI : Nat → Nat → Nat} {ad : Nat → Nat} {cI cZ : ClassId} {A : Nat → Prop} {adK adV : Nat → Nat} (C : mC p s m args c b_Md_mostOf 4 dC dI cI cZ A adK adV) (hA : ∀ q, s.heap.size ≤ q → A q) (hr : meth.sig.returnType = some .int) (hlk : meth.locks = false) (n : Nat)  (v1 : Int32) (I : Nat → Int32) (R : Nat → Nat → Int32) : ∀ (k : Nat) (v2 : Int32) (v3 : Int32) (r0 : Int32), l_Md_mostOf_5 n v1 I R k v2 v3 = some r0 → (∀ (ls : Array Slot), lv_has ls 4 [(2, .int r0)] → ∀ (H : Heap) (locs : List Loc), mH A s.heap dC dI ad cI cZ I R H locs → W p l e (rL 5) s m args below meth c H locs 0 0 Q (F0 m 65 ls [])) → ∀ (ls : Array Slot), lv_has ls 4 [(0, .ref (ad 0)), (1, .int v1), (2, .int v2), (3, .int v3)] → ∀ (H : Heap) (locs : List Loc), mH A s.heap dC dI ad cI cZ I R H locs → W p l e (rL 5) s m args below meth c H locs 0 0 Q (F0 m 5 ls []) := by
  obtain ⟨hx, hb, hml, hown, hT, -⟩ := id C
  intro k
  induction k with
  | zero => intro v2 v3 r0 hf; exact absurd hf (by unfold l_Md_mostOf_5; exact fun h9 => by cases h9)
  | succ k ih =>
    intro v2 v3 r0 hf K ls hl H locs h
    unfold l_Md_mostOf_5 at hf
    refine lv_iload_n hx hb d_Md_mostOf_5 rfl (lv_at hl 3 rfl) ?_
    refine lv_aload_n hx hb d_Md_mostOf_6 rfl (lv_at hl 0 rfl) ?_
    refine mg_1 C h d_Md_mostOf_7 ?_
    refine lv_iconst (v := 2) hx hb d_Md_mostOf_10 (by decide) ?_
    refine ma_1 C h (j := 2) (by decide) (show ix 2 890 by decide) d_Md_mostOf_11 ?_
    refine lv_icmp_ge (tgt := 65) hx hb d_Md_mostOf_12 (by decide) (fun hc => ?_) (fun hc => ?_)
    · have hf := op_t hc hf
      obtain rfl := op_i1 hf
      exact K ls (lv_sub hl [2] rfl) H locs h
    · have hf := op_f hc hf
      refine lv_aload_n hx hb d_Md_mostOf_15 rfl (lv_at hl 0 rfl) ?_
      refine mg_1 C h d_Md_mostOf_16 ?_
      refine lv_bipush (v := 34) hx hb d_Md_mostOf_19 (by decide) ?_
      refine lv_iload_n hx hb d_Md_mostOf_21 rfl (lv_at hl 3 rfl) ?_
      refine lv_iadd hx hb d_Md_mostOf_22 ?_
      obtain ⟨h1, hf⟩ := op_if hf
      refine ma_1 C h rfl h1 d_Md_mostOf_23 ?_
      refine lv_iload_n hx hb d_Md_mostOf_24 rfl (lv_at hl 1 rfl) ?_
      refine lv_ishr hx hb d_Md_mostOf_25 ?_
      refine lv_iconst (v := 1) hx hb d_Md_mostOf_26 (by decide) ?_
      refine lv_iand hx hb d_Md_mostOf_27 ?_
      refine lv_iconst (v := 1) hx hb d_Md_mostOf_28 (by decide) ?_
      obtain ⟨x3, he, hf⟩ := op_bind hf
      have K2 : ∀ (ls : Array Slot), lv_has ls 4 [(0, .ref (ad 0)), (1, .int v1), (3, .int v3)] → ∀ (H : Heap) (locs : List Loc), mH A s.heap dC dI ad cI cZ I R H locs → W p l e (rL 5) s m args below meth c H locs 0 0 Q (F0 m 58 ls [.int x3]) := by
        intro ls hl H locs h
        refine lv_istore_n (lv' := [(2, .int x3), (0, .ref (ad 0)), (1, .int v1), (3, .int v3)]) hx hb d_Md_mostOf_58 rfl hl (by decide) rfl (fun ls hl => ?_)
        refine lv_iinc (v := (v3 + 1)) (lv' := [(3, .int (v3 + 1)), (2, .int x3), (0, .ref (ad 0)), (1, .int v1)]) hx hb d_Md_mostOf_59 hl (k := 3) rfl rfl (by decide) rfl (fun ls hl => ?_)
        refine lv_goto (tgt := 5) hx hb d_Md_mostOf_62 (by decide) ?_
        exact ih x3 (v3 + 1) _ hf K ls (lv_sub hl [2, 3, 1, 0] rfl) H locs h
      have hf := he
      refine lv_icmp_ne (tgt := 57) hx hb d_Md_mostOf_29 (by decide) (fun hc => ?_) (fun hc => ?_)
      · have hf := op_f hc hf
        refine lv_iload_n hx hb d_Md_mostOf_57 rfl (lv_at hl 2 rfl) ?_
        obtain rfl := op_i1 hf
        exact K2 ls (lv_sub hl [0, 1, 3] rfl) H locs h
      · have hf := op_t hc hf
        refine lv_aload_n hx hb d_Md_mostOf_32 rfl (lv_at hl 0 rfl) ?_
        refine mg_1 C h d_Md_mostOf_33 ?_
        refine lv_bipush (v := 46) hx hb d_Md_mostOf_36 (by decide) ?_
        refine lv_iload_n hx hb d_Md_mostOf_38 rfl (lv_at hl 3 rfl) ?_
        refine lv_iadd hx hb d_Md_mostOf_39 ?_
        obtain ⟨h4, hf⟩ := op_if hf
        refine ma_1 C h rfl h4 d_Md_mostOf_40 ?_
        refine lv_iload_n hx hb d_Md_mostOf_41 rfl (lv_at hl 2 rfl) ?_
        refine lv_icmp_ge (tgt := 57) hx hb d_Md_mostOf_42 (by decide) (fun hc => ?_) (fun hc => ?_)
        · have hf := op_t hc hf
          refine lv_iload_n hx hb d_Md_mostOf_57 rfl (lv_at hl 2 rfl) ?_
          obtain rfl := op_i1 hf
          exact K2 ls (lv_sub hl [0, 1, 3] rfl) H locs h
        · have hf := op_f hc hf
          refine lv_aload_n hx hb d_Md_mostOf_45 rfl (lv_at hl 0 rfl) ?_
          refine mg_1 C h d_Md_mostOf_46 ?_
          refine lv_bipush (v := 46) hx hb d_Md_mostOf_49 (by decide) ?_
          refine lv_iload_n hx hb d_Md_mostOf_51 rfl (lv_at hl 3 rfl) ?_
          refine lv_iadd hx hb d_Md_mostOf_52 ?_
          obtain ⟨h5, hf⟩ := op_if hf
          refine ma_1 C h rfl h5 d_Md_mostOf_53 ?_
          refine lv_goto (tgt := 58) hx hb d_Md_mostOf_54 (by decide) ?_
          obtain rfl := op_i1 hf
          exact K2 ls (lv_sub hl [0, 1, 3] rfl) H locs h
def p_Md_mostOf (n : Nat) (v1 : Int32) (I : Nat → Int32) (R : Nat → Nat → Int32) : Option (Int32) := (l_Md_mostOf_5 n v1 I R n 99 0).bind fun y6 => some y6
set_option maxHeartbeats 4000000 in
theorem c_Md_mostOf (l : Launch) (n : Nat) (v1 : Int32) (I : Nat → Int32) (R : Nat → Nat → Int32)  : MMi l y_Md_mostOf b_Md_mostOf 4 .int (rL 5) (fun ad adK => [.int v1]) I R ((p_Md_mostOf n v1 I R).map fun r => (r, I, R)) := by
  refine en_mi (by decide) rfl (fun _ _ => Nat.le_of_ble_eq_true rfl) ?_
  intro z hz p e s m args below meth c dC dI ad cI cZ A adK adV ls C hA h hr hlk hl
  have hl : lv_has ls 4 [(0, .ref (ad 0)), (1, .int v1)] := hl
  obtain ⟨z, hf, rfl⟩ := op_map hz
  unfold p_Md_mostOf at hf
  obtain ⟨hx, hb, hml, hown, hT, -⟩ := id C
  refine lv_bipush (v := 99) hx hb d_Md_mostOf_0 (by decide) ?_
  refine lv_istore_n (lv' := [(2, .int 99), (0, .ref (ad 0)), (1, .int v1)]) hx hb d_Md_mostOf_2 rfl hl (by decide) rfl (fun ls hl => ?_)
  refine lv_iconst (v := 0) hx hb d_Md_mostOf_3 (by decide) ?_
  refine lv_istore_n (lv' := [(3, .int 0), (2, .int 99), (0, .ref (ad 0)), (1, .int v1)]) hx hb d_Md_mostOf_4 rfl hl (by decide) rfl (fun ls hl => ?_)
  obtain ⟨y6, he, hf⟩ := op_bind hf
  refine wl_Md_mostOf_5 C hA hr hlk n v1 I R n 99 0 _ he (fun ls hl H locs h => ?_) ls (lv_sub hl [2, 3, 1, 0] rfl) s.heap [] h
  refine lv_iload_n hx hb d_Md_mostOf_65 rfl (lv_at hl 0 rfl) ?_
  exact rt_mr C h hr hlk hf rfl d_Md_mostOf_66
theorem hd_Md_lowest : y_Md_lowest.cls ≠ "java/lang/invoke/MethodHandle" ∧ y_Md_lowest.cls ≠ "java/lang/invoke/VarHandle" ∧ (parseMethodDescriptor y_Md_lowest.desc).map (fun d => d.parameters.length) = some 3 := by decide +kernel
theorem d_Md_lowest_0 : decode b_Md_lowest 0 = .ok (.lload_n 0, 1) := by decide +kernel
theorem d_Md_lowest_1 : decode b_Md_lowest 1 = .ok (.lstore 5, 2) := by decide +kernel
theorem d_Md_lowest_3 : decode b_Md_lowest 3 = .ok (.lload_n 2, 1) := by decide +kernel
theorem d_Md_lowest_4 : decode b_Md_lowest 4 = .ok (.lstore 7, 2) := by decide +kernel
theorem d_Md_lowest_6 : decode b_Md_lowest 6 = .ok (.lload 7, 2) := by decide +kernel
theorem d_Md_lowest_8 : decode b_Md_lowest 8 = .ok (.lconst 0, 1) := by decide +kernel
theorem d_Md_lowest_9 : decode b_Md_lowest 9 = .ok (.lcmp, 1) := by decide +kernel
theorem d_Md_lowest_10 : decode b_Md_lowest 10 = .ok (.ifCond .eq 21, 3) := by decide +kernel
theorem d_Md_lowest_13 : decode b_Md_lowest 13 = .ok (.lload 5, 2) := by decide +kernel
theorem d_Md_lowest_15 : decode b_Md_lowest 15 = .ok (.lload 7, 2) := by decide +kernel
theorem d_Md_lowest_17 : decode b_Md_lowest 17 = .ok (.lrem, 1) := by decide +kernel
theorem d_Md_lowest_18 : decode b_Md_lowest 18 = .ok (.lstore 9, 2) := by decide +kernel
theorem d_Md_lowest_20 : decode b_Md_lowest 20 = .ok (.lload 7, 2) := by decide +kernel
theorem d_Md_lowest_22 : decode b_Md_lowest 22 = .ok (.lstore 5, 2) := by decide +kernel
theorem d_Md_lowest_24 : decode b_Md_lowest 24 = .ok (.lload 9, 2) := by decide +kernel
theorem d_Md_lowest_26 : decode b_Md_lowest 26 = .ok (.lstore 7, 2) := by decide +kernel
theorem d_Md_lowest_28 : decode b_Md_lowest 28 = .ok (.goto (-22), 3) := by decide +kernel
theorem d_Md_lowest_31 : decode b_Md_lowest 31 = .ok (.iload 4, 2) := by decide +kernel
theorem d_Md_lowest_33 : decode b_Md_lowest 33 = .ok (.ifCond .ne 7, 3) := by decide +kernel
theorem d_Md_lowest_36 : decode b_Md_lowest 36 = .ok (.lload_n 0, 1) := by decide +kernel
theorem d_Md_lowest_37 : decode b_Md_lowest 37 = .ok (.goto 4, 3) := by decide +kernel
theorem d_Md_lowest_40 : decode b_Md_lowest 40 = .ok (.lload_n 2, 1) := by decide +kernel
theorem d_Md_lowest_41 : decode b_Md_lowest 41 = .ok (.lload 5, 2) := by decide +kernel
theorem d_Md_lowest_43 : decode b_Md_lowest 43 = .ok (.ldiv, 1) := by decide +kernel
theorem d_Md_lowest_44 : decode b_Md_lowest 44 = .ok (.lreturn, 1) := by decide +kernel
def l_Md_lowest_6 (n : Nat)  (v0 : Int64) (v2 : Int64) (v4 : Int32)  : Nat → Int64 → Int64 → Option (Int64)
  | 0, _, _ => none
  | k + 1, v5, v7 => (if (lg_cmp v7 0) = 0 then some v5 else if ¬ v7 = 0 then l_Md_lowest_6 n v0 v2 v4 k v7 (v5 - v5 / v7 * v7) else none)
set_option maxHeartbeats 4000000 in
theorem wl_Md_lowest_6 {Q : State → Prop}  {p : Program} {l : Launch} {e : Env} {s : State} {m : MethodId} {args : Array Value} {below : List Frame} {meth : Method} {c : Code} (hx : p.tables.exec = Jvm.exec) (hb : c.code = b_Md_lowest) (hml : c.maxLocals = 11) (hown : s.vm.findClass "LanternBridgeModel" = some m.cls) (hT : ∀ w ∈ WT, w.before args s = true) (hr : meth.sig.returnType = some .long) (hlk : meth.locks = false) (n : Nat)  (v0 : Int64) (v2 : Int64) (v4 : Int32)  : ∀ (k : Nat) (v5 : Int64) (v7 : Int64) (r0 : Int64), l_Md_lowest_6 n v0 v2 v4 k v5 v7 = some r0 → (∀ (ls : Array Slot), lv_has ls 11 [(0, .long v0), (2, .long v2), (4, .int v4), (5, .long r0)] → W p l e (rL 5) s m args below meth c s.heap [] 0 0 Q (F0 m 31 ls [])) → ∀ (ls : Array Slot), lv_has ls 11 [(0, .long v0), (2, .long v2), (4, .int v4), (5, .long v5), (7, .long v7)] → W p l e (rL 5) s m args below meth c s.heap [] 0 0 Q (F0 m 6 ls []) := by
  intro k
  induction k with
  | zero => intro v5 v7 r0 hf; exact absurd hf (by unfold l_Md_lowest_6; exact fun h9 => by cases h9)
  | succ k ih =>
    intro v5 v7 r0 hf K ls hl
    unfold l_Md_lowest_6 at hf
    refine lv_lload hx hb d_Md_lowest_6 (lv_at hl 4 rfl) ?_
    refine lv_lconst (v := 0) hx hb d_Md_lowest_8 (by decide) ?_
    refine W.lcmp hx hb d_Md_lowest_9 ?_
    refine lv_if_eq (tgt := 31) hx hb d_Md_lowest_10 (by decide) (fun hc => ?_) (fun hc => ?_)
    · have hf := op_t hc hf
      obtain rfl := op_i1 hf
      exact K ls (lv_sub hl [0, 1, 2, 3] rfl)
    · have hf := op_f hc hf
      refine lv_lload hx hb d_Md_lowest_13 (lv_at hl 3 rfl) ?_
      refine lv_lload hx hb d_Md_lowest_15 (lv_at hl 4 rfl) ?_
      obtain ⟨h1, hf⟩ := op_if hf
      refine lv_lrem hx hb d_Md_lowest_17 h1 ?_
      refine lv_lstore (lv' := [(9, .long (v5 - v5 / v7 * v7)), (0, .long v0), (2, .long v2), (4, .int v4), (5, .long v5), (7, .long v7)]) hx hb d_Md_lowest_18 hl (by decide) rfl (fun ls hl => ?_)
      refine lv_lload hx hb d_Md_lowest_20 (lv_at hl 5 rfl) ?_
      refine lv_lstore (lv' := [(5, .long v7), (9, .long (v5 - v5 / v7 * v7)), (0, .long v0), (2, .long v2), (4, .int v4), (7, .long v7)]) hx hb d_Md_lowest_22 hl (by decide) rfl (fun ls hl => ?_)
      refine lv_lload hx hb d_Md_lowest_24 (lv_at hl 1 rfl) ?_
      refine lv_lstore (lv' := [(7, .long (v5 - v5 / v7 * v7)), (5, .long v7), (9, .long (v5 - v5 / v7 * v7)), (0, .long v0), (2, .long v2), (4, .int v4)]) hx hb d_Md_lowest_26 hl (by decide) rfl (fun ls hl => ?_)
      refine lv_goto (tgt := 6) hx hb d_Md_lowest_28 (by decide) ?_
      exact ih v7 (v5 - v5 / v7 * v7) _ hf K ls (lv_sub hl [3, 4, 5, 1, 0] rfl)
def p_Md_lowest (n : Nat) (v0 : Int64) (v2 : Int64) (v4 : Int32)  : Option (Int64) := (l_Md_lowest_6 n v0 v2 v4 n v0 v2).bind fun y2 => (if v4 = 0 then some v0 else some v2 : Option (Int64)).bind fun x4 => if ¬ y2 = 0 then some (x4 / y2) else none
set_option maxHeartbeats 4000000 in
theorem c_Md_lowest (l : Launch) (n : Nat) (v0 : Int64) (v2 : Int64) (v4 : Int32)   : MSl l y_Md_lowest b_Md_lowest 11 (rL 5) [.long v0, .long v2, .int v4] (p_Md_lowest n v0 v2 v4 ) := by
  refine en_sl (by decide) (Nat.le_of_ble_eq_true rfl) ?_
  intro z hf p e s m args below meth c ls hx hb hml hown hT hr hlk hl
  have hl : lv_has ls 11 [(0, .long v0), (2, .long v2), (4, .int v4)] := hl
  unfold p_Md_lowest at hf
  refine lv_lload_n hx hb d_Md_lowest_0 rfl (lv_at hl 0 rfl) ?_
  refine lv_lstore (lv' := [(5, .long v0), (0, .long v0), (2, .long v2), (4, .int v4)]) hx hb d_Md_lowest_1 hl (by decide) rfl (fun ls hl => ?_)
  refine lv_lload_n hx hb d_Md_lowest_3 rfl (lv_at hl 2 rfl) ?_
  refine lv_lstore (lv' := [(7, .long v2), (5, .long v0), (0, .long v0), (2, .long v2), (4, .int v4)]) hx hb d_Md_lowest_4 hl (by decide) rfl (fun ls hl => ?_)
  obtain ⟨y2, he, hf⟩ := op_bind hf
  refine wl_Md_lowest_6 hx hb hml hown hT hr hlk n v0 v2 v4 n v0 v2 _ he (fun ls hl => ?_) ls (lv_sub hl [2, 3, 4, 1, 0] rfl)
  refine lv_iload hx hb d_Md_lowest_31 (lv_at hl 2 rfl) ?_
  obtain ⟨x4, he, hf⟩ := op_bind hf
  have K3 : ∀ (ls : Array Slot), lv_has ls 11 [(5, .long y2)] → W p l e (rL 5) s m args below meth c s.heap [] 0 0 (MQ below (fun _ st oc t => oc = .returned (some (.long z)) ∧ t.heap = st.heap) args s 0 0 (fun _ => False)) (F0 m 41 ls [.long x4]) := by
    intro ls hl
    refine lv_lload hx hb d_Md_lowest_41 (lv_at hl 0 rfl) ?_
    obtain ⟨h5, hf⟩ := op_if hf
    refine lv_ldiv hx hb d_Md_lowest_43 h5 ?_
    obtain rfl := op_i1 hf
    exact rt_sl hx hb hr hlk d_Md_lowest_44
  have hf := he
  refine lv_if_ne (tgt := 40) hx hb d_Md_lowest_33 (by decide) (fun hc => ?_) (fun hc => ?_)
  · have hf := op_f hc hf
    refine lv_lload_n hx hb d_Md_lowest_40 rfl (lv_at hl 1 rfl) ?_
    obtain rfl := op_i1 hf
    exact K3 ls (lv_sub hl [3] rfl)
  · have hf := op_t hc hf
    refine lv_lload_n hx hb d_Md_lowest_36 rfl (lv_at hl 0 rfl) ?_
    refine lv_goto (tgt := 41) hx hb d_Md_lowest_37 (by decide) ?_
    obtain rfl := op_i1 hf
    exact K3 ls (lv_sub hl [3] rfl)
theorem hd_Md_ranBody : y_Md_ranBody.cls ≠ "java/lang/invoke/MethodHandle" ∧ y_Md_ranBody.cls ≠ "java/lang/invoke/VarHandle" ∧ (parseMethodDescriptor y_Md_ranBody.desc).map (fun d => d.parameters.length) = some 1 := by decide +kernel
theorem d_Md_ranBody_0 : decode b_Md_ranBody 0 = .ok (.aload_n 0, 1) := by decide +kernel
theorem d_Md_ranBody_1 : decode b_Md_ranBody 1 = .ok (.getfield 244, 3) := by decide +kernel
theorem d_Md_ranBody_4 : decode b_Md_ranBody 4 = .ok (.bipush 20, 2) := by decide +kernel
theorem d_Md_ranBody_6 : decode b_Md_ranBody 6 = .ok (.if_icmp .ge 13, 3) := by decide +kernel
theorem d_Md_ranBody_9 : decode b_Md_ranBody 9 = .ok (.aload_n 0, 1) := by decide +kernel
theorem d_Md_ranBody_10 : decode b_Md_ranBody 10 = .ok (.getfield 37, 3) := by decide +kernel
theorem d_Md_ranBody_13 : decode b_Md_ranBody 13 = .ok (.aload_n 0, 1) := by decide +kernel
theorem d_Md_ranBody_14 : decode b_Md_ranBody 14 = .ok (.getfield 244, 3) := by decide +kernel
theorem d_Md_ranBody_17 : decode b_Md_ranBody 17 = .ok (.iload_n 1, 1) := by decide +kernel
theorem d_Md_ranBody_18 : decode b_Md_ranBody 18 = .ok (.iastore, 1) := by decide +kernel
theorem d_Md_ranBody_19 : decode b_Md_ranBody 19 = .ok (.aload_n 0, 1) := by decide +kernel
theorem d_Md_ranBody_20 : decode b_Md_ranBody 20 = .ok (.dup, 1) := by decide +kernel
theorem d_Md_ranBody_21 : decode b_Md_ranBody 21 = .ok (.getfield 244, 3) := by decide +kernel
theorem d_Md_ranBody_24 : decode b_Md_ranBody 24 = .ok (.iconst 1, 1) := by decide +kernel
theorem d_Md_ranBody_25 : decode b_Md_ranBody 25 = .ok (.iadd, 1) := by decide +kernel
theorem d_Md_ranBody_26 : decode b_Md_ranBody 26 = .ok (.putfield 244, 3) := by decide +kernel
theorem d_Md_ranBody_29 : decode b_Md_ranBody 29 = .ok (.return_, 1) := by decide +kernel
def p_Md_ranBody (n : Nat) (v1 : Int32) (I : Nat → Int32) (R : Nat → Nat → Int32) : Option (MU) := (if 20 ≤ (I 20) then some (I, R) else if ix (I 20) 20 then some (I, (upR R 19 (I 20).toNatClampNeg v1)) else none : Option ((Nat → Int32) × (Nat → Nat → Int32))).bind fun (I2, R3) => some ((upd I2 20 ((I2 20) + 1)), R3)
set_option maxHeartbeats 4000000 in
theorem c_Md_ranBody (l : Launch) (n : Nat) (v1 : Int32) (I : Nat → Int32) (R : Nat → Nat → Int32)  : MMv l y_Md_ranBody b_Md_ranBody 2 (rL 5) (fun ad adK => [.int v1]) I R (p_Md_ranBody n v1 I R) := by
  refine en_mv (by decide) rfl (fun _ _ => Nat.le_of_ble_eq_true rfl) ?_
  intro z hf p e s m args below meth c dC dI ad cI cZ A adK adV ls C hA h hr hlk hl
  have hl : lv_has ls 2 [(0, .ref (ad 0)), (1, .int v1)] := hl
  unfold p_Md_ranBody at hf
  obtain ⟨hx, hb, hml, hown, hT, -⟩ := id C
  refine lv_aload_n hx hb d_Md_ranBody_0 rfl (lv_at hl 0 rfl) ?_
  refine mg_20 C h d_Md_ranBody_1 ?_
  refine lv_bipush (v := 20) hx hb d_Md_ranBody_4 (by decide) ?_
  obtain ⟨⟨I2, R3⟩, he, hf⟩ := op_bind hf
  try dsimp only at hf
  have K1 : ∀ (ls : Array Slot), lv_has ls 2 [(0, .ref (ad 0))] → ∀ (H : Heap) (locs : List Loc), mH A s.heap dC dI ad cI cZ I2 R3 H locs → W p l e (rL 5) s m args below meth c H locs 0 0 (mQv dC dI ad cI cZ A below args s z) (F0 m 19 ls []) := by
    intro ls hl H locs h
    refine lv_aload_n hx hb d_Md_ranBody_19 rfl (lv_at hl 0 rfl) ?_
    refine lv_dup hx hb d_Md_ranBody_20 rfl ?_
    refine mg_20 C h d_Md_ranBody_21 ?_
    refine lv_iconst (v := 1) hx hb d_Md_ranBody_24 (by decide) ?_
    refine lv_iadd hx hb d_Md_ranBody_25 ?_
    refine mp_20 C h d_Md_ranBody_26 (fun H locs h => ?_)
    exact rt_mv C h hr hlk hf d_Md_ranBody_29
  have hf := he
  refine lv_icmp_ge (tgt := 19) hx hb d_Md_ranBody_6 (by decide) (fun hc => ?_) (fun hc => ?_)
  · have hf := op_t hc hf
    obtain ⟨rfl, rfl⟩ := op_i2 hf
    exact K1 ls (lv_sub hl [0] rfl) s.heap [] h
  · have hf := op_f hc hf
    refine lv_aload_n hx hb d_Md_ranBody_9 rfl (lv_at hl 0 rfl) ?_
    refine mg_19 C h d_Md_ranBody_10 ?_
    refine lv_aload_n hx hb d_Md_ranBody_13 rfl (lv_at hl 0 rfl) ?_
    refine mg_20 C h d_Md_ranBody_14 ?_
    refine lv_iload_n hx hb d_Md_ranBody_17 rfl (lv_at hl 1 rfl) ?_
    obtain ⟨h4, hf⟩ := op_if hf
    refine ms_19 C h rfl h4 d_Md_ranBody_18 (fun H locs h => ?_)
    obtain ⟨rfl, rfl⟩ := op_i2 hf
    exact K1 ls (lv_sub hl [0] rfl) H locs h
theorem hd_Md_isUnder : y_Md_isUnder.cls ≠ "java/lang/invoke/MethodHandle" ∧ y_Md_isUnder.cls ≠ "java/lang/invoke/VarHandle" ∧ (parseMethodDescriptor y_Md_isUnder.desc).map (fun d => d.parameters.length) = some 2 := by decide +kernel
theorem d_Md_isUnder_0 : decode b_Md_isUnder 0 = .ok (.iload_n 1, 1) := by decide +kernel
theorem d_Md_isUnder_1 : decode b_Md_isUnder 1 = .ok (.ifCond .eq 24, 3) := by decide +kernel
theorem d_Md_isUnder_4 : decode b_Md_isUnder 4 = .ok (.iload_n 1, 1) := by decide +kernel
theorem d_Md_isUnder_5 : decode b_Md_isUnder 5 = .ok (.iload_n 0, 1) := by decide +kernel
theorem d_Md_isUnder_6 : decode b_Md_isUnder 6 = .ok (.if_icmp .eq 19, 3) := by decide +kernel
theorem d_Md_isUnder_9 : decode b_Md_isUnder 9 = .ok (.iload_n 1, 1) := by decide +kernel
theorem d_Md_isUnder_10 : decode b_Md_isUnder 10 = .ok (.ifCond .le 19, 3) := by decide +kernel
theorem d_Md_isUnder_13 : decode b_Md_isUnder 13 = .ok (.iload_n 1, 1) := by decide +kernel
theorem d_Md_isUnder_14 : decode b_Md_isUnder 14 = .ok (.iconst 4, 1) := by decide +kernel
theorem d_Md_isUnder_15 : decode b_Md_isUnder 15 = .ok (.if_icmp .ge 14, 3) := by decide +kernel
theorem d_Md_isUnder_18 : decode b_Md_isUnder 18 = .ok (.iload_n 0, 1) := by decide +kernel
theorem d_Md_isUnder_19 : decode b_Md_isUnder 19 = .ok (.iload_n 1, 1) := by decide +kernel
theorem d_Md_isUnder_20 : decode b_Md_isUnder 20 = .ok (.iconst 3, 1) := by decide +kernel
theorem d_Md_isUnder_21 : decode b_Md_isUnder 21 = .ok (.iadd, 1) := by decide +kernel
theorem d_Md_isUnder_22 : decode b_Md_isUnder 22 = .ok (.if_icmp .ne 7, 3) := by decide +kernel
theorem d_Md_isUnder_25 : decode b_Md_isUnder 25 = .ok (.iconst 1, 1) := by decide +kernel
theorem d_Md_isUnder_26 : decode b_Md_isUnder 26 = .ok (.goto 4, 3) := by decide +kernel
theorem d_Md_isUnder_29 : decode b_Md_isUnder 29 = .ok (.iconst 0, 1) := by decide +kernel
theorem d_Md_isUnder_30 : decode b_Md_isUnder 30 = .ok (.ireturn, 1) := by decide +kernel
def p_Md_isUnder (n : Nat) (v0 : Int32) (v1 : Int32)  : Option (Int32) := (if v1 = 0 then some 1 else (if v1 = v0 then some 1 else (if v1 ≤ 0 then some 0 else (if 4 ≤ v1 then some 0 else (if v0 = (v1 + 3) then some 1 else some 0)))) : Option (Int32)).bind fun x2 => if isZ x2 then some x2 else none
set_option maxHeartbeats 4000000 in
theorem c_Md_isUnder (l : Launch) (n : Nat) (v0 : Int32) (v1 : Int32)   : MSi l y_Md_isUnder b_Md_isUnder 2 .boolean (rL 5) [.int v0, .int v1] (p_Md_isUnder n v0 v1 ) := by
  refine en_si (by decide) (Nat.le_of_ble_eq_true rfl) ?_
  intro z hf p e s m args below meth c ls hx hb hml hown hT hr hlk hl
  have hl : lv_has ls 2 [(0, .int v0), (1, .int v1)] := hl
  unfold p_Md_isUnder at hf
  refine lv_iload_n hx hb d_Md_isUnder_0 rfl (lv_at hl 1 rfl) ?_
  obtain ⟨x2, he, hf⟩ := op_bind hf
  have K1 : ∀ (ls : Array Slot), lv_has ls 2 [] → W p l e (rL 5) s m args below meth c s.heap [] 0 0 (MQ below (fun _ st oc t => oc = .returned (some (.int z)) ∧ t.heap = st.heap) args s 0 0 (fun _ => False)) (F0 m 30 ls [.int x2]) := by
    intro ls hl
    obtain ⟨h3, hf⟩ := op_if hf
    obtain rfl := op_i1 hf
    exact rt_si hx hb hr hlk (isZ_nar h3) d_Md_isUnder_30
  have hf := he
  refine lv_if_eq (tgt := 25) hx hb d_Md_isUnder_1 (by decide) (fun hc => ?_) (fun hc => ?_)
  · have hf := op_t hc hf
    refine lv_iconst (v := 1) hx hb d_Md_isUnder_25 (by decide) ?_
    refine lv_goto (tgt := 30) hx hb d_Md_isUnder_26 (by decide) ?_
    obtain rfl := op_i1 hf
    exact K1 ls (lv_sub hl [] rfl)
  · have hf := op_f hc hf
    refine lv_iload_n hx hb d_Md_isUnder_4 rfl (lv_at hl 1 rfl) ?_
    refine lv_iload_n hx hb d_Md_isUnder_5 rfl (lv_at hl 0 rfl) ?_
    refine lv_icmp_eq (tgt := 25) hx hb d_Md_isUnder_6 (by decide) (fun hc => ?_) (fun hc => ?_)
    · have hf := op_t hc hf
      refine lv_iconst (v := 1) hx hb d_Md_isUnder_25 (by decide) ?_
      refine lv_goto (tgt := 30) hx hb d_Md_isUnder_26 (by decide) ?_
      obtain rfl := op_i1 hf
      exact K1 ls (lv_sub hl [] rfl)
    · have hf := op_f hc hf
      refine lv_iload_n hx hb d_Md_isUnder_9 rfl (lv_at hl 1 rfl) ?_
      refine lv_if_le (tgt := 29) hx hb d_Md_isUnder_10 (by decide) (fun hc => ?_) (fun hc => ?_)
      · have hf := op_t hc hf
        refine lv_iconst (v := 0) hx hb d_Md_isUnder_29 (by decide) ?_
        obtain rfl := op_i1 hf
        exact K1 ls (lv_sub hl [] rfl)
      · have hf := op_f hc hf
        refine lv_iload_n hx hb d_Md_isUnder_13 rfl (lv_at hl 1 rfl) ?_
        refine lv_iconst (v := 4) hx hb d_Md_isUnder_14 (by decide) ?_
        refine lv_icmp_ge (tgt := 29) hx hb d_Md_isUnder_15 (by decide) (fun hc => ?_) (fun hc => ?_)
        · have hf := op_t hc hf
          refine lv_iconst (v := 0) hx hb d_Md_isUnder_29 (by decide) ?_
          obtain rfl := op_i1 hf
          exact K1 ls (lv_sub hl [] rfl)
        · have hf := op_f hc hf
          refine lv_iload_n hx hb d_Md_isUnder_18 rfl (lv_at hl 0 rfl) ?_
          refine lv_iload_n hx hb d_Md_isUnder_19 rfl (lv_at hl 1 rfl) ?_
          refine lv_iconst (v := 3) hx hb d_Md_isUnder_20 (by decide) ?_
          refine lv_iadd hx hb d_Md_isUnder_21 ?_
          refine lv_icmp_ne (tgt := 29) hx hb d_Md_isUnder_22 (by decide) (fun hc => ?_) (fun hc => ?_)
          · have hf := op_f hc hf
            refine lv_iconst (v := 0) hx hb d_Md_isUnder_29 (by decide) ?_
            obtain rfl := op_i1 hf
            exact K1 ls (lv_sub hl [] rfl)
          · have hf := op_t hc hf
            refine lv_iconst (v := 1) hx hb d_Md_isUnder_25 (by decide) ?_
            refine lv_goto (tgt := 30) hx hb d_Md_isUnder_26 (by decide) ?_
            obtain rfl := op_i1 hf
            exact K1 ls (lv_sub hl [] rfl)
theorem hd_Md_image : y_Md_image.cls ≠ "java/lang/invoke/MethodHandle" ∧ y_Md_image.cls ≠ "java/lang/invoke/VarHandle" ∧ (parseMethodDescriptor y_Md_image.desc).map (fun d => d.parameters.length) = some 0 := by decide +kernel
theorem d_Md_image_0 : decode b_Md_image 0 = .ok (.iconst 0, 1) := by decide +kernel
theorem d_Md_image_1 : decode b_Md_image 1 = .ok (.istore_n 1, 1) := by decide +kernel
theorem d_Md_image_2 : decode b_Md_image 2 = .ok (.iload_n 1, 1) := by decide +kernel
theorem d_Md_image_3 : decode b_Md_image 3 = .ok (.sipush 890, 3) := by decide +kernel
theorem d_Md_image_6 : decode b_Md_image 6 = .ok (.if_icmp .ge 21, 3) := by decide +kernel
theorem d_Md_image_9 : decode b_Md_image 9 = .ok (.aload_n 0, 1) := by decide +kernel
theorem d_Md_image_10 : decode b_Md_image 10 = .ok (.getfield 15, 3) := by decide +kernel
theorem d_Md_image_13 : decode b_Md_image 13 = .ok (.iload_n 1, 1) := by decide +kernel
theorem d_Md_image_14 : decode b_Md_image 14 = .ok (.aload_n 0, 1) := by decide +kernel
theorem d_Md_image_15 : decode b_Md_image 15 = .ok (.getfield 9, 3) := by decide +kernel
theorem d_Md_image_18 : decode b_Md_image 18 = .ok (.iload_n 1, 1) := by decide +kernel
theorem d_Md_image_19 : decode b_Md_image 19 = .ok (.iaload, 1) := by decide +kernel
theorem d_Md_image_20 : decode b_Md_image 20 = .ok (.iastore, 1) := by decide +kernel
theorem d_Md_image_21 : decode b_Md_image 21 = .ok (.iinc 1 1, 3) := by decide +kernel
theorem d_Md_image_24 : decode b_Md_image 24 = .ok (.goto (-22), 3) := by decide +kernel
theorem d_Md_image_27 : decode b_Md_image 27 = .ok (.aload_n 0, 1) := by decide +kernel
theorem d_Md_image_28 : decode b_Md_image 28 = .ok (.iconst 1, 1) := by decide +kernel
theorem d_Md_image_29 : decode b_Md_image 29 = .ok (.putfield 280, 3) := by decide +kernel
theorem d_Md_image_32 : decode b_Md_image 32 = .ok (.aload_n 0, 1) := by decide +kernel
theorem d_Md_image_33 : decode b_Md_image 33 = .ok (.getfield 9, 3) := by decide +kernel
theorem d_Md_image_36 : decode b_Md_image 36 = .ok (.iconst 0, 1) := by decide +kernel
theorem d_Md_image_37 : decode b_Md_image 37 = .ok (.iaload, 1) := by decide +kernel
theorem d_Md_image_38 : decode b_Md_image 38 = .ok (.ireturn, 1) := by decide +kernel
def l_Md_image_2 (n : Nat)    : Nat → Int32 → (Nat → Int32) → (Nat → Nat → Int32) → Option ((Nat → Int32) × (Nat → Nat → Int32))
  | 0, _, _, _ => none
  | k + 1, v1, I, R => (if 890 ≤ v1 then some (I, R) else if ix v1 890 then if ix v1 890 then l_Md_image_2 n k (v1 + 1) I (upR R 2 v1.toNatClampNeg (R 1 v1.toNatClampNeg)) else none else none)
set_option maxHeartbeats 4000000 in
theorem wl_Md_image_2 {Q : State → Prop}  {p : Program} {l : Launch} {e : Env} {s : State} {m : MethodId} {args : Array Value} {below : List Frame} {meth : Method} {c : Code} {dC : Nat → ClassId} {dI : Nat → Nat → Nat} {ad : Nat → Nat} {cI cZ : ClassId} {A : Nat → Prop} {adK adV : Nat → Nat} (C : mC p s m args c b_Md_image 2 dC dI cI cZ A adK adV) (hA : ∀ q, s.heap.size ≤ q → A q) (hr : meth.sig.returnType = some .int) (hlk : meth.locks = false) (n : Nat)    : ∀ (k : Nat) (v1 : Int32) (I : Nat → Int32) (R : Nat → Nat → Int32) (r0 : Nat → Int32) (r1 : Nat → Nat → Int32), l_Md_image_2 n k v1 I R = some (r0, r1) → (∀ (ls : Array Slot), lv_has ls 2 [(0, .ref (ad 0))] → ∀ (H : Heap) (locs : List Loc), mH A s.heap dC dI ad cI cZ r0 r1 H locs → W p l e (rL 5) s m args below meth c H locs 0 0 Q (F0 m 27 ls [])) → ∀ (ls : Array Slot), lv_has ls 2 [(0, .ref (ad 0)), (1, .int v1)] → ∀ (H : Heap) (locs : List Loc), mH A s.heap dC dI ad cI cZ I R H locs → W p l e (rL 5) s m args below meth c H locs 0 0 Q (F0 m 2 ls []) := by
  obtain ⟨hx, hb, hml, hown, hT, -⟩ := id C
  intro k
  induction k with
  | zero => intro v1 I R r0 r1 hf; exact absurd hf (by unfold l_Md_image_2; exact fun h9 => by cases h9)
  | succ k ih =>
    intro v1 I R r0 r1 hf K ls hl H locs h
    unfold l_Md_image_2 at hf
    refine lv_iload_n hx hb d_Md_image_2 rfl (lv_at hl 1 rfl) ?_
    refine lv_sipush (v := 890) hx hb d_Md_image_3 (by decide) ?_
    refine lv_icmp_ge (tgt := 27) hx hb d_Md_image_6 (by decide) (fun hc => ?_) (fun hc => ?_)
    · have hf := op_t hc hf
      obtain ⟨rfl, rfl⟩ := op_i2 hf
      exact K ls (lv_sub hl [0] rfl) H locs h
    · have hf := op_f hc hf
      refine lv_aload_n hx hb d_Md_image_9 rfl (lv_at hl 0 rfl) ?_
      refine mg_2 C h d_Md_image_10 ?_
      refine lv_iload_n hx hb d_Md_image_13 rfl (lv_at hl 1 rfl) ?_
      refine lv_aload_n hx hb d_Md_image_14 rfl (lv_at hl 0 rfl) ?_
      refine mg_1 C h d_Md_image_15 ?_
      refine lv_iload_n hx hb d_Md_image_18 rfl (lv_at hl 1 rfl) ?_
      obtain ⟨h1, hf⟩ := op_if hf
      refine ma_1 C h rfl h1 d_Md_image_19 ?_
      obtain ⟨h2, hf⟩ := op_if hf
      refine ms_2 C h rfl h2 d_Md_image_20 (fun H locs h => ?_)
      refine lv_iinc (v := (v1 + 1)) (lv' := [(1, .int (v1 + 1)), (0, .ref (ad 0))]) hx hb d_Md_image_21 hl (k := 1) rfl rfl (by decide) rfl (fun ls hl => ?_)
      refine lv_goto (tgt := 2) hx hb d_Md_image_24 (by decide) ?_
      exact ih (v1 + 1) I (upR R 2 v1.toNatClampNeg (R 1 v1.toNatClampNeg)) _ _ hf K ls (lv_sub hl [1, 0] rfl) H locs h
def p_Md_image (n : Nat)  (I : Nat → Int32) (R : Nat → Nat → Int32) : Option (Int32 × MU) := (l_Md_image_2 n n 0 I R).bind fun (I3, R4) => some ((R4 1 0), (upd I3 3 1), R4)
set_option maxHeartbeats 4000000 in
theorem c_Md_image (l : Launch) (n : Nat)  (I : Nat → Int32) (R : Nat → Nat → Int32)  : MMi l y_Md_image b_Md_image 2 .int (rL 5) (fun ad adK => []) I R (p_Md_image n I R) := by
  refine en_mi (by decide) rfl (fun _ _ => Nat.le_of_ble_eq_true rfl) ?_
  intro z hf p e s m args below meth c dC dI ad cI cZ A adK adV ls C hA h hr hlk hl
  have hl : lv_has ls 2 [(0, .ref (ad 0))] := hl
  unfold p_Md_image at hf
  obtain ⟨hx, hb, hml, hown, hT, -⟩ := id C
  refine lv_iconst (v := 0) hx hb d_Md_image_0 (by decide) ?_
  refine lv_istore_n (lv' := [(1, .int 0), (0, .ref (ad 0))]) hx hb d_Md_image_1 rfl hl (by decide) rfl (fun ls hl => ?_)
  obtain ⟨⟨I3, R4⟩, he, hf⟩ := op_bind hf
  try dsimp only at hf
  refine wl_Md_image_2 C hA hr hlk n  n 0 I R _ _ he (fun ls hl H locs h => ?_) ls (lv_sub hl [1, 0] rfl) s.heap [] h
  refine lv_aload_n hx hb d_Md_image_27 rfl (lv_at hl 0 rfl) ?_
  refine lv_iconst (v := 1) hx hb d_Md_image_28 (by decide) ?_
  refine mp_3 C h (by decide) d_Md_image_29 (fun H locs h => ?_)
  refine lv_aload_n hx hb d_Md_image_32 rfl (lv_at hl 0 rfl) ?_
  refine mg_1 C h d_Md_image_33 ?_
  refine lv_iconst (v := 0) hx hb d_Md_image_36 (by decide) ?_
  refine ma_1 C h (j := 0) (by decide) (show ix 0 890 by decide) d_Md_image_37 ?_
  exact rt_mi C h hr hlk hf rfl d_Md_image_38
theorem hd_Md_undo : y_Md_undo.cls ≠ "java/lang/invoke/MethodHandle" ∧ y_Md_undo.cls ≠ "java/lang/invoke/VarHandle" ∧ (parseMethodDescriptor y_Md_undo.desc).map (fun d => d.parameters.length) = some 0 := by decide +kernel
theorem d_Md_undo_0 : decode b_Md_undo 0 = .ok (.aload_n 0, 1) := by decide +kernel
theorem d_Md_undo_1 : decode b_Md_undo 1 = .ok (.getfield 280, 3) := by decide +kernel
theorem d_Md_undo_4 : decode b_Md_undo 4 = .ok (.ifCond .ne 6, 3) := by decide +kernel
theorem d_Md_undo_7 : decode b_Md_undo 7 = .ok (.bipush (-3), 2) := by decide +kernel
theorem d_Md_undo_9 : decode b_Md_undo 9 = .ok (.ireturn, 1) := by decide +kernel
theorem d_Md_undo_10 : decode b_Md_undo 10 = .ok (.iconst 0, 1) := by decide +kernel
theorem d_Md_undo_11 : decode b_Md_undo 11 = .ok (.istore_n 1, 1) := by decide +kernel
theorem d_Md_undo_12 : decode b_Md_undo 12 = .ok (.iload_n 1, 1) := by decide +kernel
theorem d_Md_undo_13 : decode b_Md_undo 13 = .ok (.sipush 890, 3) := by decide +kernel
theorem d_Md_undo_16 : decode b_Md_undo 16 = .ok (.if_icmp .ge 21, 3) := by decide +kernel
theorem d_Md_undo_19 : decode b_Md_undo 19 = .ok (.aload_n 0, 1) := by decide +kernel
theorem d_Md_undo_20 : decode b_Md_undo 20 = .ok (.getfield 9, 3) := by decide +kernel
theorem d_Md_undo_23 : decode b_Md_undo 23 = .ok (.iload_n 1, 1) := by decide +kernel
theorem d_Md_undo_24 : decode b_Md_undo 24 = .ok (.aload_n 0, 1) := by decide +kernel
theorem d_Md_undo_25 : decode b_Md_undo 25 = .ok (.getfield 15, 3) := by decide +kernel
theorem d_Md_undo_28 : decode b_Md_undo 28 = .ok (.iload_n 1, 1) := by decide +kernel
theorem d_Md_undo_29 : decode b_Md_undo 29 = .ok (.iaload, 1) := by decide +kernel
theorem d_Md_undo_30 : decode b_Md_undo 30 = .ok (.iastore, 1) := by decide +kernel
theorem d_Md_undo_31 : decode b_Md_undo 31 = .ok (.iinc 1 1, 3) := by decide +kernel
theorem d_Md_undo_34 : decode b_Md_undo 34 = .ok (.goto (-22), 3) := by decide +kernel
theorem d_Md_undo_37 : decode b_Md_undo 37 = .ok (.aload_n 0, 1) := by decide +kernel
theorem d_Md_undo_38 : decode b_Md_undo 38 = .ok (.getfield 9, 3) := by decide +kernel
theorem d_Md_undo_41 : decode b_Md_undo 41 = .ok (.iconst 0, 1) := by decide +kernel
theorem d_Md_undo_42 : decode b_Md_undo 42 = .ok (.iaload, 1) := by decide +kernel
theorem d_Md_undo_43 : decode b_Md_undo 43 = .ok (.ireturn, 1) := by decide +kernel
def l_Md_undo_12 (n : Nat)    : Nat → Int32 → (Nat → Int32) → (Nat → Nat → Int32) → Option ((Nat → Int32) × (Nat → Nat → Int32))
  | 0, _, _, _ => none
  | k + 1, v1, I, R => (if 890 ≤ v1 then some (I, R) else if ix v1 890 then if ix v1 890 then l_Md_undo_12 n k (v1 + 1) I (upR R 1 v1.toNatClampNeg (R 2 v1.toNatClampNeg)) else none else none)
set_option maxHeartbeats 4000000 in
theorem wl_Md_undo_12 {Q : State → Prop}  {p : Program} {l : Launch} {e : Env} {s : State} {m : MethodId} {args : Array Value} {below : List Frame} {meth : Method} {c : Code} {dC : Nat → ClassId} {dI : Nat → Nat → Nat} {ad : Nat → Nat} {cI cZ : ClassId} {A : Nat → Prop} {adK adV : Nat → Nat} (C : mC p s m args c b_Md_undo 2 dC dI cI cZ A adK adV) (hA : ∀ q, s.heap.size ≤ q → A q) (hr : meth.sig.returnType = some .int) (hlk : meth.locks = false) (n : Nat)    : ∀ (k : Nat) (v1 : Int32) (I : Nat → Int32) (R : Nat → Nat → Int32) (r0 : Nat → Int32) (r1 : Nat → Nat → Int32), l_Md_undo_12 n k v1 I R = some (r0, r1) → (∀ (ls : Array Slot), lv_has ls 2 [(0, .ref (ad 0))] → ∀ (H : Heap) (locs : List Loc), mH A s.heap dC dI ad cI cZ r0 r1 H locs → W p l e (rL 5) s m args below meth c H locs 0 0 Q (F0 m 37 ls [])) → ∀ (ls : Array Slot), lv_has ls 2 [(0, .ref (ad 0)), (1, .int v1)] → ∀ (H : Heap) (locs : List Loc), mH A s.heap dC dI ad cI cZ I R H locs → W p l e (rL 5) s m args below meth c H locs 0 0 Q (F0 m 12 ls []) := by
  obtain ⟨hx, hb, hml, hown, hT, -⟩ := id C
  intro k
  induction k with
  | zero => intro v1 I R r0 r1 hf; exact absurd hf (by unfold l_Md_undo_12; exact fun h9 => by cases h9)
  | succ k ih =>
    intro v1 I R r0 r1 hf K ls hl H locs h
    unfold l_Md_undo_12 at hf
    refine lv_iload_n hx hb d_Md_undo_12 rfl (lv_at hl 1 rfl) ?_
    refine lv_sipush (v := 890) hx hb d_Md_undo_13 (by decide) ?_
    refine lv_icmp_ge (tgt := 37) hx hb d_Md_undo_16 (by decide) (fun hc => ?_) (fun hc => ?_)
    · have hf := op_t hc hf
      obtain ⟨rfl, rfl⟩ := op_i2 hf
      exact K ls (lv_sub hl [0] rfl) H locs h
    · have hf := op_f hc hf
      refine lv_aload_n hx hb d_Md_undo_19 rfl (lv_at hl 0 rfl) ?_
      refine mg_1 C h d_Md_undo_20 ?_
      refine lv_iload_n hx hb d_Md_undo_23 rfl (lv_at hl 1 rfl) ?_
      refine lv_aload_n hx hb d_Md_undo_24 rfl (lv_at hl 0 rfl) ?_
      refine mg_2 C h d_Md_undo_25 ?_
      refine lv_iload_n hx hb d_Md_undo_28 rfl (lv_at hl 1 rfl) ?_
      obtain ⟨h1, hf⟩ := op_if hf
      refine ma_2 C h rfl h1 d_Md_undo_29 ?_
      obtain ⟨h2, hf⟩ := op_if hf
      refine ms_1 C h rfl h2 d_Md_undo_30 (fun H locs h => ?_)
      refine lv_iinc (v := (v1 + 1)) (lv' := [(1, .int (v1 + 1)), (0, .ref (ad 0))]) hx hb d_Md_undo_31 hl (k := 1) rfl rfl (by decide) rfl (fun ls hl => ?_)
      refine lv_goto (tgt := 12) hx hb d_Md_undo_34 (by decide) ?_
      exact ih (v1 + 1) I (upR R 1 v1.toNatClampNeg (R 2 v1.toNatClampNeg)) _ _ hf K ls (lv_sub hl [1, 0] rfl) H locs h
def p_Md_undo (n : Nat)  (I : Nat → Int32) (R : Nat → Nat → Int32) : Option (Int32 × MU) := (if (I 3) = 0 then some ((-3), I, R) else (l_Md_undo_12 n n 0 I R).bind fun (I3, R4) => some ((R4 1 0), I3, R4))
set_option maxHeartbeats 4000000 in
theorem c_Md_undo (l : Launch) (n : Nat)  (I : Nat → Int32) (R : Nat → Nat → Int32)  : MMi l y_Md_undo b_Md_undo 2 .int (rL 5) (fun ad adK => []) I R (p_Md_undo n I R) := by
  refine en_mi (by decide) rfl (fun _ _ => Nat.le_of_ble_eq_true rfl) ?_
  intro z hf p e s m args below meth c dC dI ad cI cZ A adK adV ls C hA h hr hlk hl
  have hl : lv_has ls 2 [(0, .ref (ad 0))] := hl
  unfold p_Md_undo at hf
  obtain ⟨hx, hb, hml, hown, hT, -⟩ := id C
  refine lv_aload_n hx hb d_Md_undo_0 rfl (lv_at hl 0 rfl) ?_
  refine mg_3 C h d_Md_undo_1 ?_
  refine lv_if_ne (tgt := 10) hx hb d_Md_undo_4 (by decide) (fun hc => ?_) (fun hc => ?_)
  · have hf := op_f hc hf
    refine lv_iconst (v := 0) hx hb d_Md_undo_10 (by decide) ?_
    refine lv_istore_n (lv' := [(1, .int 0), (0, .ref (ad 0))]) hx hb d_Md_undo_11 rfl hl (by decide) rfl (fun ls hl => ?_)
    obtain ⟨⟨I3, R4⟩, he, hf⟩ := op_bind hf
    try dsimp only at hf
    refine wl_Md_undo_12 C hA hr hlk n  n 0 I R _ _ he (fun ls hl H locs h => ?_) ls (lv_sub hl [1, 0] rfl) s.heap [] h
    refine lv_aload_n hx hb d_Md_undo_37 rfl (lv_at hl 0 rfl) ?_
    refine mg_1 C h d_Md_undo_38 ?_
    refine lv_iconst (v := 0) hx hb d_Md_undo_41 (by decide) ?_
    refine ma_1 C h (j := 0) (by decide) (show ix 0 890 by decide) d_Md_undo_42 ?_
    exact rt_mi C h hr hlk hf rfl d_Md_undo_43
  · have hf := op_t hc hf
    refine lv_bipush (v := (-3)) hx hb d_Md_undo_7 (by decide) ?_
    exact rt_mi C h hr hlk hf rfl d_Md_undo_9
theorem hd_Md_count : y_Md_count.cls ≠ "java/lang/invoke/MethodHandle" ∧ y_Md_count.cls ≠ "java/lang/invoke/VarHandle" ∧ (parseMethodDescriptor y_Md_count.desc).map (fun d => d.parameters.length) = some 1 := by decide +kernel
theorem d_Md_count_0 : decode b_Md_count 0 = .ok (.iload_n 1, 1) := by decide +kernel
theorem d_Md_count_1 : decode b_Md_count 1 = .ok (.tableswitch 79 0 5 #[39, 46, 53, 60, 67, 74], 39) := by decide +kernel
theorem d_Md_count_40 : decode b_Md_count 40 = .ok (.aload_n 0, 1) := by decide +kernel
theorem d_Md_count_41 : decode b_Md_count 41 = .ok (.getfield 9, 3) := by decide +kernel
theorem d_Md_count_44 : decode b_Md_count 44 = .ok (.iconst 0, 1) := by decide +kernel
theorem d_Md_count_45 : decode b_Md_count 45 = .ok (.iaload, 1) := by decide +kernel
theorem d_Md_count_46 : decode b_Md_count 46 = .ok (.ireturn, 1) := by decide +kernel
theorem d_Md_count_47 : decode b_Md_count 47 = .ok (.aload_n 0, 1) := by decide +kernel
theorem d_Md_count_48 : decode b_Md_count 48 = .ok (.getfield 9, 3) := by decide +kernel
theorem d_Md_count_51 : decode b_Md_count 51 = .ok (.iconst 1, 1) := by decide +kernel
theorem d_Md_count_52 : decode b_Md_count 52 = .ok (.iaload, 1) := by decide +kernel
theorem d_Md_count_53 : decode b_Md_count 53 = .ok (.ireturn, 1) := by decide +kernel
theorem d_Md_count_54 : decode b_Md_count 54 = .ok (.aload_n 0, 1) := by decide +kernel
theorem d_Md_count_55 : decode b_Md_count 55 = .ok (.getfield 9, 3) := by decide +kernel
theorem d_Md_count_58 : decode b_Md_count 58 = .ok (.iconst 2, 1) := by decide +kernel
theorem d_Md_count_59 : decode b_Md_count 59 = .ok (.iaload, 1) := by decide +kernel
theorem d_Md_count_60 : decode b_Md_count 60 = .ok (.ireturn, 1) := by decide +kernel
theorem d_Md_count_61 : decode b_Md_count 61 = .ok (.aload_n 0, 1) := by decide +kernel
theorem d_Md_count_62 : decode b_Md_count 62 = .ok (.getfield 9, 3) := by decide +kernel
theorem d_Md_count_65 : decode b_Md_count 65 = .ok (.iconst 3, 1) := by decide +kernel
theorem d_Md_count_66 : decode b_Md_count 66 = .ok (.iaload, 1) := by decide +kernel
theorem d_Md_count_67 : decode b_Md_count 67 = .ok (.ireturn, 1) := by decide +kernel
theorem d_Md_count_68 : decode b_Md_count 68 = .ok (.aload_n 0, 1) := by decide +kernel
theorem d_Md_count_69 : decode b_Md_count 69 = .ok (.getfield 9, 3) := by decide +kernel
theorem d_Md_count_72 : decode b_Md_count 72 = .ok (.iconst 4, 1) := by decide +kernel
theorem d_Md_count_73 : decode b_Md_count 73 = .ok (.iaload, 1) := by decide +kernel
theorem d_Md_count_74 : decode b_Md_count 74 = .ok (.ireturn, 1) := by decide +kernel
theorem d_Md_count_75 : decode b_Md_count 75 = .ok (.aload_n 0, 1) := by decide +kernel
theorem d_Md_count_76 : decode b_Md_count 76 = .ok (.getfield 244, 3) := by decide +kernel
theorem d_Md_count_79 : decode b_Md_count 79 = .ok (.ireturn, 1) := by decide +kernel
theorem d_Md_count_80 : decode b_Md_count 80 = .ok (.iconst (-1), 1) := by decide +kernel
theorem d_Md_count_81 : decode b_Md_count 81 = .ok (.ireturn, 1) := by decide +kernel
def p_Md_count (n : Nat) (v1 : Int32) (I : Nat → Int32) (R : Nat → Nat → Int32) : Option (Int32) := (if v1 = 0 then some (R 1 0) else if v1 = 1 then some (R 1 1) else if v1 = 2 then some (R 1 2) else if v1 = 3 then some (R 1 3) else if v1 = 4 then some (R 1 4) else if v1 = 5 then some (I 20) else some (-1))
set_option maxHeartbeats 4000000 in
theorem c_Md_count (l : Launch) (n : Nat) (v1 : Int32) (I : Nat → Int32) (R : Nat → Nat → Int32)  : MMi l y_Md_count b_Md_count 2 .int (rL 5) (fun ad adK => [.int v1]) I R ((p_Md_count n v1 I R).map fun r => (r, I, R)) := by
  refine en_mi (by decide) rfl (fun _ _ => Nat.le_of_ble_eq_true rfl) ?_
  intro z hz p e s m args below meth c dC dI ad cI cZ A adK adV ls C hA h hr hlk hl
  have hl : lv_has ls 2 [(0, .ref (ad 0)), (1, .int v1)] := hl
  obtain ⟨z, hf, rfl⟩ := op_map hz
  unfold p_Md_count at hf
  obtain ⟨hx, hb, hml, hown, hT, -⟩ := id C
  refine lv_iload_n hx hb d_Md_count_0 rfl (lv_at hl 1 rfl) ?_
  by_cases hs0 : v1 = 0
  · have hf := op_t hs0 hf
    refine lv_tableIn (tgt := 40) (off := 39) hx hb d_Md_count_1 (by rw [hs0]; decide) (by rw [hs0]; decide) (by rw [hs0]; decide) (by decide) ?_
    refine lv_aload_n hx hb d_Md_count_40 rfl (lv_at hl 0 rfl) ?_
    refine mg_1 C h d_Md_count_41 ?_
    refine lv_iconst (v := 0) hx hb d_Md_count_44 (by decide) ?_
    refine ma_1 C h (j := 0) (by decide) (show ix 0 890 by decide) d_Md_count_45 ?_
    exact rt_mr C h hr hlk hf rfl d_Md_count_46
  · have hf := op_f hs0 hf
    by_cases hs1 : v1 = 1
    · have hf := op_t hs1 hf
      refine lv_tableIn (tgt := 47) (off := 46) hx hb d_Md_count_1 (by rw [hs1]; decide) (by rw [hs1]; decide) (by rw [hs1]; decide) (by decide) ?_
      refine lv_aload_n hx hb d_Md_count_47 rfl (lv_at hl 0 rfl) ?_
      refine mg_1 C h d_Md_count_48 ?_
      refine lv_iconst (v := 1) hx hb d_Md_count_51 (by decide) ?_
      refine ma_1 C h (j := 1) (by decide) (show ix 1 890 by decide) d_Md_count_52 ?_
      exact rt_mr C h hr hlk hf rfl d_Md_count_53
    · have hf := op_f hs1 hf
      by_cases hs2 : v1 = 2
      · have hf := op_t hs2 hf
        refine lv_tableIn (tgt := 54) (off := 53) hx hb d_Md_count_1 (by rw [hs2]; decide) (by rw [hs2]; decide) (by rw [hs2]; decide) (by decide) ?_
        refine lv_aload_n hx hb d_Md_count_54 rfl (lv_at hl 0 rfl) ?_
        refine mg_1 C h d_Md_count_55 ?_
        refine lv_iconst (v := 2) hx hb d_Md_count_58 (by decide) ?_
        refine ma_1 C h (j := 2) (by decide) (show ix 2 890 by decide) d_Md_count_59 ?_
        exact rt_mr C h hr hlk hf rfl d_Md_count_60
      · have hf := op_f hs2 hf
        by_cases hs3 : v1 = 3
        · have hf := op_t hs3 hf
          refine lv_tableIn (tgt := 61) (off := 60) hx hb d_Md_count_1 (by rw [hs3]; decide) (by rw [hs3]; decide) (by rw [hs3]; decide) (by decide) ?_
          refine lv_aload_n hx hb d_Md_count_61 rfl (lv_at hl 0 rfl) ?_
          refine mg_1 C h d_Md_count_62 ?_
          refine lv_iconst (v := 3) hx hb d_Md_count_65 (by decide) ?_
          refine ma_1 C h (j := 3) (by decide) (show ix 3 890 by decide) d_Md_count_66 ?_
          exact rt_mr C h hr hlk hf rfl d_Md_count_67
        · have hf := op_f hs3 hf
          by_cases hs4 : v1 = 4
          · have hf := op_t hs4 hf
            refine lv_tableIn (tgt := 68) (off := 67) hx hb d_Md_count_1 (by rw [hs4]; decide) (by rw [hs4]; decide) (by rw [hs4]; decide) (by decide) ?_
            refine lv_aload_n hx hb d_Md_count_68 rfl (lv_at hl 0 rfl) ?_
            refine mg_1 C h d_Md_count_69 ?_
            refine lv_iconst (v := 4) hx hb d_Md_count_72 (by decide) ?_
            refine ma_1 C h (j := 4) (by decide) (show ix 4 890 by decide) d_Md_count_73 ?_
            exact rt_mr C h hr hlk hf rfl d_Md_count_74
          · have hf := op_f hs4 hf
            by_cases hs5 : v1 = 5
            · have hf := op_t hs5 hf
              refine lv_tableIn (tgt := 75) (off := 74) hx hb d_Md_count_1 (by rw [hs5]; decide) (by rw [hs5]; decide) (by rw [hs5]; decide) (by decide) ?_
              refine lv_aload_n hx hb d_Md_count_75 rfl (lv_at hl 0 rfl) ?_
              refine mg_20 C h d_Md_count_76 ?_
              exact rt_mr C h hr hlk hf rfl d_Md_count_79
            · have hf := op_f hs5 hf
              have et0 := tn_ne (v := 0) (by decide) hs0
              have et1 := tn_ne (v := 1) (by decide) hs1
              have et2 := tn_ne (v := 2) (by decide) hs2
              have et3 := tn_ne (v := 3) (by decide) hs3
              have et4 := tn_ne (v := 4) (by decide) hs4
              have et5 := tn_ne (v := 5) (by decide) hs5
              refine lv_tableOut (tgt := 80) hx hb d_Md_count_1 (by omega) (by decide) ?_
              refine lv_iconst (v := (-1)) hx hb d_Md_count_80 (by decide) ?_
              exact rt_mr C h hr hlk hf rfl d_Md_count_81
theorem hd_Md_figures : y_Md_figures.cls ≠ "java/lang/invoke/MethodHandle" ∧ y_Md_figures.cls ≠ "java/lang/invoke/VarHandle" ∧ (parseMethodDescriptor y_Md_figures.desc).map (fun d => d.parameters.length) = some 0 := by decide +kernel
theorem d_Md_figures_0 : decode b_Md_figures 0 = .ok (.aload_n 0, 1) := by decide +kernel
theorem d_Md_figures_1 : decode b_Md_figures 1 = .ok (.aload_n 0, 1) := by decide +kernel
theorem d_Md_figures_2 : decode b_Md_figures 2 = .ok (.getfield 58, 3) := by decide +kernel
theorem d_Md_figures_5 : decode b_Md_figures 5 = .ok (.ifCond .ne 17, 3) := by decide +kernel
theorem d_Md_figures_8 : decode b_Md_figures 8 = .ok (.aload_n 0, 1) := by decide +kernel
theorem d_Md_figures_9 : decode b_Md_figures 9 = .ok (.invokevirtual 62, 3) := by decide +kernel
theorem d_Md_figures_12 : decode b_Md_figures 12 = .ok (.bipush 48, 2) := by decide +kernel
theorem d_Md_figures_14 : decode b_Md_figures 14 = .ok (.bipush 57, 2) := by decide +kernel
theorem d_Md_figures_16 : decode b_Md_figures 16 = .ok (.invokestatic 44, 3) := by decide +kernel
theorem d_Md_figures_19 : decode b_Md_figures 19 = .ok (.ifCond .ne 7, 3) := by decide +kernel
theorem d_Md_figures_22 : decode b_Md_figures 22 = .ok (.iconst 1, 1) := by decide +kernel
theorem d_Md_figures_23 : decode b_Md_figures 23 = .ok (.goto 4, 3) := by decide +kernel
theorem d_Md_figures_26 : decode b_Md_figures 26 = .ok (.iconst 0, 1) := by decide +kernel
theorem d_Md_figures_27 : decode b_Md_figures 27 = .ok (.putfield 58, 3) := by decide +kernel
theorem d_Md_figures_30 : decode b_Md_figures 30 = .ok (.iconst 0, 1) := by decide +kernel
theorem d_Md_figures_31 : decode b_Md_figures 31 = .ok (.istore_n 1, 1) := by decide +kernel
theorem d_Md_figures_32 : decode b_Md_figures 32 = .ok (.iconst 0, 1) := by decide +kernel
theorem d_Md_figures_33 : decode b_Md_figures 33 = .ok (.istore_n 2, 1) := by decide +kernel
theorem d_Md_figures_34 : decode b_Md_figures 34 = .ok (.iload_n 2, 1) := by decide +kernel
theorem d_Md_figures_35 : decode b_Md_figures 35 = .ok (.iconst 2, 1) := by decide +kernel
theorem d_Md_figures_36 : decode b_Md_figures 36 = .ok (.if_icmp .ge 61, 3) := by decide +kernel
theorem d_Md_figures_39 : decode b_Md_figures 39 = .ok (.aload_n 0, 1) := by decide +kernel
theorem d_Md_figures_40 : decode b_Md_figures 40 = .ok (.getfield 58, 3) := by decide +kernel
theorem d_Md_figures_43 : decode b_Md_figures 43 = .ok (.ifCond .ne 54, 3) := by decide +kernel
theorem d_Md_figures_46 : decode b_Md_figures 46 = .ok (.aload_n 0, 1) := by decide +kernel
theorem d_Md_figures_47 : decode b_Md_figures 47 = .ok (.invokevirtual 62, 3) := by decide +kernel
theorem d_Md_figures_50 : decode b_Md_figures 50 = .ok (.bipush 48, 2) := by decide +kernel
theorem d_Md_figures_52 : decode b_Md_figures 52 = .ok (.bipush 57, 2) := by decide +kernel
theorem d_Md_figures_54 : decode b_Md_figures 54 = .ok (.invokestatic 44, 3) := by decide +kernel
theorem d_Md_figures_57 : decode b_Md_figures 57 = .ok (.ifCond .eq 40, 3) := by decide +kernel
theorem d_Md_figures_60 : decode b_Md_figures 60 = .ok (.iload_n 2, 1) := by decide +kernel
theorem d_Md_figures_61 : decode b_Md_figures 61 = .ok (.ifCond .eq 7, 3) := by decide +kernel
theorem d_Md_figures_64 : decode b_Md_figures 64 = .ok (.iload_n 1, 1) := by decide +kernel
theorem d_Md_figures_65 : decode b_Md_figures 65 = .ok (.ifCond .le 32, 3) := by decide +kernel
theorem d_Md_figures_68 : decode b_Md_figures 68 = .ok (.bipush 10, 2) := by decide +kernel
theorem d_Md_figures_70 : decode b_Md_figures 70 = .ok (.iload_n 1, 1) := by decide +kernel
theorem d_Md_figures_71 : decode b_Md_figures 71 = .ok (.imul, 1) := by decide +kernel
theorem d_Md_figures_72 : decode b_Md_figures 72 = .ok (.aload_n 0, 1) := by decide +kernel
theorem d_Md_figures_73 : decode b_Md_figures 73 = .ok (.invokevirtual 62, 3) := by decide +kernel
theorem d_Md_figures_76 : decode b_Md_figures 76 = .ok (.iadd, 1) := by decide +kernel
theorem d_Md_figures_77 : decode b_Md_figures 77 = .ok (.bipush 48, 2) := by decide +kernel
theorem d_Md_figures_79 : decode b_Md_figures 79 = .ok (.isub, 1) := by decide +kernel
theorem d_Md_figures_80 : decode b_Md_figures 80 = .ok (.istore_n 1, 1) := by decide +kernel
theorem d_Md_figures_81 : decode b_Md_figures 81 = .ok (.aload_n 0, 1) := by decide +kernel
theorem d_Md_figures_82 : decode b_Md_figures 82 = .ok (.dup, 1) := by decide +kernel
theorem d_Md_figures_83 : decode b_Md_figures 83 = .ok (.getfield 52, 3) := by decide +kernel
theorem d_Md_figures_86 : decode b_Md_figures 86 = .ok (.iconst 1, 1) := by decide +kernel
theorem d_Md_figures_87 : decode b_Md_figures 87 = .ok (.iadd, 1) := by decide +kernel
theorem d_Md_figures_88 : decode b_Md_figures 88 = .ok (.putfield 52, 3) := by decide +kernel
theorem d_Md_figures_91 : decode b_Md_figures 91 = .ok (.iinc 2 1, 3) := by decide +kernel
theorem d_Md_figures_94 : decode b_Md_figures 94 = .ok (.goto (-60), 3) := by decide +kernel
theorem d_Md_figures_97 : decode b_Md_figures 97 = .ok (.iload_n 1, 1) := by decide +kernel
theorem d_Md_figures_98 : decode b_Md_figures 98 = .ok (.ireturn, 1) := by decide +kernel
def l_Md_figures_34 (n : Nat)    : Nat → Int32 → Int32 → (Nat → Int32) → (Nat → Nat → Int32) → Option (Int32 × (Nat → Int32) × (Nat → Nat → Int32))
  | 0, _, _, _, _ => none
  | k + 1, v1, v2, I, R => (if 2 ≤ v2 then some (v1, I, R) else (if (I 7) = 0 then (p_Md_here n I R).bind fun x9 => (p_Md_in n x9 48 57).bind fun x11 => (if x11 = 0 then some (v1, I, R) else (if v2 = 0 then (p_Md_here n I R).bind fun x13 => l_Md_figures_34 n k (((10 * v1) + x13) - 48) (v2 + 1) (upd I 5 ((I 5) + 1)) R else (if v1 ≤ 0 then some (v1, I, R) else (p_Md_here n I R).bind fun x15 => l_Md_figures_34 n k (((10 * v1) + x15) - 48) (v2 + 1) (upd I 5 ((I 5) + 1)) R))) else some (v1, I, R)))
set_option maxHeartbeats 4000000 in
theorem wl_Md_figures_34 {Q : State → Prop}  {p : Program} {l : Launch} {e : Env} {s : State} {m : MethodId} {args : Array Value} {below : List Frame} {meth : Method} {c : Code} {dC : Nat → ClassId} {dI : Nat → Nat → Nat} {ad : Nat → Nat} {cI cZ : ClassId} {A : Nat → Prop} {adK adV : Nat → Nat} (C : mC p s m args c b_Md_figures 3 dC dI cI cZ A adK adV) (hA : ∀ q, s.heap.size ≤ q → A q) (hr : meth.sig.returnType = some .int) (hlk : meth.locks = false) (n : Nat)    : ∀ (k : Nat) (v1 : Int32) (v2 : Int32) (I : Nat → Int32) (R : Nat → Nat → Int32) (r0 : Int32) (r1 : Nat → Int32) (r2 : Nat → Nat → Int32), l_Md_figures_34 n k v1 v2 I R = some (r0, r1, r2) → (∀ (ls : Array Slot), lv_has ls 3 [(1, .int r0)] → ∀ (H : Heap) (locs : List Loc), mH A s.heap dC dI ad cI cZ r1 r2 H locs → W p l e (rL 6) s m args below meth c H locs 0 0 Q (F0 m 97 ls [])) → ∀ (ls : Array Slot), lv_has ls 3 [(0, .ref (ad 0)), (1, .int v1), (2, .int v2)] → ∀ (H : Heap) (locs : List Loc), mH A s.heap dC dI ad cI cZ I R H locs → W p l e (rL 6) s m args below meth c H locs 0 0 Q (F0 m 34 ls []) := by
  obtain ⟨hx, hb, hml, hown, hT, -⟩ := id C
  intro k
  induction k with
  | zero => intro v1 v2 I R r0 r1 r2 hf; exact absurd hf (by unfold l_Md_figures_34; exact fun h9 => by cases h9)
  | succ k ih =>
    intro v1 v2 I R r0 r1 r2 hf K ls hl H locs h
    unfold l_Md_figures_34 at hf
    refine lv_iload_n hx hb d_Md_figures_34 rfl (lv_at hl 2 rfl) ?_
    refine lv_iconst (v := 2) hx hb d_Md_figures_35 (by decide) ?_
    refine lv_icmp_ge (tgt := 97) hx hb d_Md_figures_36 (by decide) (fun hc => ?_) (fun hc => ?_)
    · have hf := op_t hc hf
      obtain ⟨rfl, rfl, rfl⟩ := op_i3 hf
      exact K ls (lv_sub hl [1] rfl) H locs h
    · have hf := op_f hc hf
      refine lv_aload_n hx hb d_Md_figures_39 rfl (lv_at hl 0 rfl) ?_
      refine mg_7 C h d_Md_figures_40 ?_
      refine lv_if_ne (tgt := 97) hx hb d_Md_figures_43 (by decide) (fun hc => ?_) (fun hc => ?_)
      · have hf := op_f hc hf
        obtain ⟨rfl, rfl, rfl⟩ := op_i3 hf
        exact K ls (lv_sub hl [1] rfl) H locs h
      · have hf := op_t hc hf
        refine lv_aload_n hx hb d_Md_figures_46 rfl (lv_at hl 0 rfl) ?_
        obtain ⟨x9, hc8, hf⟩ := op_bind hf
        refine kc_r (rest := []) C h hA (c_Md_here l n I R) hc8 (cbW 0 hT cd_Md_here rfl rfl ini_Md ml_Md_62 hd_Md_here ⟨Nat.le_of_ble_eq_true rfl, Nat.le_of_ble_eq_true rfl⟩) im_Md_here sp_Md_here rfl hl.1 rfl (Nat.le_of_ble_eq_true rfl) d_Md_figures_47 ⟨Nat.zero_le _, Nat.zero_le _⟩ (fun H locs h => ?_)
        refine lv_bipush (v := 48) hx hb d_Md_figures_50 (by decide) ?_
        refine lv_bipush (v := 57) hx hb d_Md_figures_52 (by decide) ?_
        obtain ⟨x11, hc10, hf⟩ := op_bind hf
        refine ks_i (rest := []) hx hb hml hown hT (c_Md_in l n x9 48 57 _ hc10) (cbW 3 hT cd_Md_in rfl rfl ini_Md ml_Md_44 hd_Md_in ⟨Nat.le_of_ble_eq_true rfl, Nat.le_of_ble_eq_true rfl⟩) sm_Md_in rfl hl.1 rfl (Nat.le_of_ble_eq_true rfl) d_Md_figures_54 ⟨Nat.zero_le _, Nat.zero_le _⟩ ?_
        refine lv_if_eq (tgt := 97) hx hb d_Md_figures_57 (by decide) (fun hc => ?_) (fun hc => ?_)
        · have hf := op_t hc hf
          obtain ⟨rfl, rfl, rfl⟩ := op_i3 hf
          exact K ls (lv_sub hl [1] rfl) H locs h
        · have hf := op_f hc hf
          refine lv_iload_n hx hb d_Md_figures_60 rfl (lv_at hl 2 rfl) ?_
          refine lv_if_eq (tgt := 68) hx hb d_Md_figures_61 (by decide) (fun hc => ?_) (fun hc => ?_)
          · have hf := op_t hc hf
            refine lv_bipush (v := 10) hx hb d_Md_figures_68 (by decide) ?_
            refine lv_iload_n hx hb d_Md_figures_70 rfl (lv_at hl 1 rfl) ?_
            refine lv_imul hx hb d_Md_figures_71 ?_
            refine lv_aload_n hx hb d_Md_figures_72 rfl (lv_at hl 0 rfl) ?_
            obtain ⟨x13, hc12, hf⟩ := op_bind hf
            refine kc_r (rest := [.int (10 * v1)]) C h hA (c_Md_here l n I R) hc12 (cbW 0 hT cd_Md_here rfl rfl ini_Md ml_Md_62 hd_Md_here ⟨Nat.le_of_ble_eq_true rfl, Nat.le_of_ble_eq_true rfl⟩) im_Md_here sp_Md_here rfl hl.1 rfl (Nat.le_of_ble_eq_true rfl) d_Md_figures_73 ⟨Nat.zero_le _, Nat.zero_le _⟩ (fun H locs h => ?_)
            refine lv_iadd hx hb d_Md_figures_76 ?_
            refine lv_bipush (v := 48) hx hb d_Md_figures_77 (by decide) ?_
            refine lv_isub hx hb d_Md_figures_79 ?_
            refine lv_istore_n (lv' := [(1, .int (((10 * v1) + x13) - 48)), (0, .ref (ad 0)), (2, .int v2)]) hx hb d_Md_figures_80 rfl hl (by decide) rfl (fun ls hl => ?_)
            refine lv_aload_n hx hb d_Md_figures_81 rfl (lv_at hl 1 rfl) ?_
            refine lv_dup hx hb d_Md_figures_82 rfl ?_
            refine mg_5 C h d_Md_figures_83 ?_
            refine lv_iconst (v := 1) hx hb d_Md_figures_86 (by decide) ?_
            refine lv_iadd hx hb d_Md_figures_87 ?_
            refine mp_5 C h d_Md_figures_88 (fun H locs h => ?_)
            refine lv_iinc (v := (v2 + 1)) (lv' := [(2, .int (v2 + 1)), (1, .int (((10 * v1) + x13) - 48)), (0, .ref (ad 0))]) hx hb d_Md_figures_91 hl (k := 2) rfl rfl (by decide) rfl (fun ls hl => ?_)
            refine lv_goto (tgt := 34) hx hb d_Md_figures_94 (by decide) ?_
            exact ih (((10 * v1) + x13) - 48) (v2 + 1) (upd I 5 ((I 5) + 1)) R _ _ _ hf K ls (lv_sub hl [2, 1, 0] rfl) H locs h
          · have hf := op_f hc hf
            refine lv_iload_n hx hb d_Md_figures_64 rfl (lv_at hl 1 rfl) ?_
            refine lv_if_le (tgt := 97) hx hb d_Md_figures_65 (by decide) (fun hc => ?_) (fun hc => ?_)
            · have hf := op_t hc hf
              obtain ⟨rfl, rfl, rfl⟩ := op_i3 hf
              exact K ls (lv_sub hl [1] rfl) H locs h
            · have hf := op_f hc hf
              refine lv_bipush (v := 10) hx hb d_Md_figures_68 (by decide) ?_
              refine lv_iload_n hx hb d_Md_figures_70 rfl (lv_at hl 1 rfl) ?_
              refine lv_imul hx hb d_Md_figures_71 ?_
              refine lv_aload_n hx hb d_Md_figures_72 rfl (lv_at hl 0 rfl) ?_
              obtain ⟨x15, hc14, hf⟩ := op_bind hf
              refine kc_r (rest := [.int (10 * v1)]) C h hA (c_Md_here l n I R) hc14 (cbW 0 hT cd_Md_here rfl rfl ini_Md ml_Md_62 hd_Md_here ⟨Nat.le_of_ble_eq_true rfl, Nat.le_of_ble_eq_true rfl⟩) im_Md_here sp_Md_here rfl hl.1 rfl (Nat.le_of_ble_eq_true rfl) d_Md_figures_73 ⟨Nat.zero_le _, Nat.zero_le _⟩ (fun H locs h => ?_)
              refine lv_iadd hx hb d_Md_figures_76 ?_
              refine lv_bipush (v := 48) hx hb d_Md_figures_77 (by decide) ?_
              refine lv_isub hx hb d_Md_figures_79 ?_
              refine lv_istore_n (lv' := [(1, .int (((10 * v1) + x15) - 48)), (0, .ref (ad 0)), (2, .int v2)]) hx hb d_Md_figures_80 rfl hl (by decide) rfl (fun ls hl => ?_)
              refine lv_aload_n hx hb d_Md_figures_81 rfl (lv_at hl 1 rfl) ?_
              refine lv_dup hx hb d_Md_figures_82 rfl ?_
              refine mg_5 C h d_Md_figures_83 ?_
              refine lv_iconst (v := 1) hx hb d_Md_figures_86 (by decide) ?_
              refine lv_iadd hx hb d_Md_figures_87 ?_
              refine mp_5 C h d_Md_figures_88 (fun H locs h => ?_)
              refine lv_iinc (v := (v2 + 1)) (lv' := [(2, .int (v2 + 1)), (1, .int (((10 * v1) + x15) - 48)), (0, .ref (ad 0))]) hx hb d_Md_figures_91 hl (k := 2) rfl rfl (by decide) rfl (fun ls hl => ?_)
              refine lv_goto (tgt := 34) hx hb d_Md_figures_94 (by decide) ?_
              exact ih (((10 * v1) + x15) - 48) (v2 + 1) (upd I 5 ((I 5) + 1)) R _ _ _ hf K ls (lv_sub hl [2, 1, 0] rfl) H locs h
def p_Md_figures (n : Nat)  (I : Nat → Int32) (R : Nat → Nat → Int32) : Option (Int32 × MU) := (if (I 7) = 0 then (p_Md_here n I R).bind fun x4 => (p_Md_in n x4 48 57).bind fun x6 => (if x6 = 0 then some 1 else some 0) else some 1 : Option (Int32)).bind fun x2 => if isZ x2 then (l_Md_figures_34 n n 0 0 (upd I 7 x2) R).bind fun (y16, I17, R18) => some (y16, I17, R18) else none
set_option maxHeartbeats 4000000 in
theorem c_Md_figures (l : Launch) (n : Nat)  (I : Nat → Int32) (R : Nat → Nat → Int32)  : MMi l y_Md_figures b_Md_figures 3 .int (rL 6) (fun ad adK => []) I R (p_Md_figures n I R) := by
  refine en_mi (by decide) rfl (fun _ _ => Nat.le_of_ble_eq_true rfl) ?_
  intro z hf p e s m args below meth c dC dI ad cI cZ A adK adV ls C hA h hr hlk hl
  have hl : lv_has ls 3 [(0, .ref (ad 0))] := hl
  unfold p_Md_figures at hf
  obtain ⟨hx, hb, hml, hown, hT, -⟩ := id C
  refine lv_aload_n hx hb d_Md_figures_0 rfl (lv_at hl 0 rfl) ?_
  refine lv_aload_n hx hb d_Md_figures_1 rfl (lv_at hl 0 rfl) ?_
  refine mg_7 C h d_Md_figures_2 ?_
  obtain ⟨x2, he, hf⟩ := op_bind hf
  have K1 : ∀ (ls : Array Slot), lv_has ls 3 [(0, .ref (ad 0))] → ∀ (H : Heap) (locs : List Loc), mH A s.heap dC dI ad cI cZ I R H locs → W p l e (rL 6) s m args below meth c H locs 0 0 (mQi dC dI ad cI cZ A below args s z) (F0 m 27 ls [.int x2, .ref (ad 0)]) := by
    intro ls hl H locs h
    obtain ⟨h7, hf⟩ := op_if hf
    refine mp_7 C h h7 d_Md_figures_27 (fun H locs h => ?_)
    refine lv_iconst (v := 0) hx hb d_Md_figures_30 (by decide) ?_
    refine lv_istore_n (lv' := [(1, .int 0), (0, .ref (ad 0))]) hx hb d_Md_figures_31 rfl hl (by decide) rfl (fun ls hl => ?_)
    refine lv_iconst (v := 0) hx hb d_Md_figures_32 (by decide) ?_
    refine lv_istore_n (lv' := [(2, .int 0), (1, .int 0), (0, .ref (ad 0))]) hx hb d_Md_figures_33 rfl hl (by decide) rfl (fun ls hl => ?_)
    obtain ⟨⟨y16, I17, R18⟩, he, hf⟩ := op_bind hf
    try dsimp only at hf
    refine wl_Md_figures_34 C hA hr hlk n  n 0 0 (upd I 7 x2) R _ _ _ he (fun ls hl H locs h => ?_) ls (lv_sub hl [2, 1, 0] rfl) H locs h
    refine lv_iload_n hx hb d_Md_figures_97 rfl (lv_at hl 0 rfl) ?_
    exact rt_mi C h hr hlk hf rfl d_Md_figures_98
  have hf := he
  refine lv_if_ne (tgt := 22) hx hb d_Md_figures_5 (by decide) (fun hc => ?_) (fun hc => ?_)
  · have hf := op_f hc hf
    refine lv_iconst (v := 1) hx hb d_Md_figures_22 (by decide) ?_
    refine lv_goto (tgt := 27) hx hb d_Md_figures_23 (by decide) ?_
    obtain rfl := op_i1 hf
    exact K1 ls (lv_sub hl [0] rfl) s.heap [] h
  · have hf := op_t hc hf
    refine lv_aload_n hx hb d_Md_figures_8 rfl (lv_at hl 0 rfl) ?_
    obtain ⟨x4, hc3, hf⟩ := op_bind hf
    refine kc_r (rest := [.ref (ad 0)]) C h hA (c_Md_here l n I R) hc3 (cbW 0 hT cd_Md_here rfl rfl ini_Md ml_Md_62 hd_Md_here ⟨Nat.le_of_ble_eq_true rfl, Nat.le_of_ble_eq_true rfl⟩) im_Md_here sp_Md_here rfl hl.1 rfl (Nat.le_of_ble_eq_true rfl) d_Md_figures_9 ⟨Nat.zero_le _, Nat.zero_le _⟩ (fun H locs h => ?_)
    refine lv_bipush (v := 48) hx hb d_Md_figures_12 (by decide) ?_
    refine lv_bipush (v := 57) hx hb d_Md_figures_14 (by decide) ?_
    obtain ⟨x6, hc5, hf⟩ := op_bind hf
    refine ks_i (rest := [.ref (ad 0)]) hx hb hml hown hT (c_Md_in l n x4 48 57 _ hc5) (cbW 3 hT cd_Md_in rfl rfl ini_Md ml_Md_44 hd_Md_in ⟨Nat.le_of_ble_eq_true rfl, Nat.le_of_ble_eq_true rfl⟩) sm_Md_in rfl hl.1 rfl (Nat.le_of_ble_eq_true rfl) d_Md_figures_16 ⟨Nat.zero_le _, Nat.zero_le _⟩ ?_
    refine lv_if_ne (tgt := 26) hx hb d_Md_figures_19 (by decide) (fun hc => ?_) (fun hc => ?_)
    · have hf := op_f hc hf
      refine lv_iconst (v := 0) hx hb d_Md_figures_26 (by decide) ?_
      obtain rfl := op_i1 hf
      exact K1 ls (lv_sub hl [0] rfl) H locs h
    · have hf := op_t hc hf
      refine lv_iconst (v := 1) hx hb d_Md_figures_22 (by decide) ?_
      refine lv_goto (tgt := 27) hx hb d_Md_figures_23 (by decide) ?_
      obtain rfl := op_i1 hf
      exact K1 ls (lv_sub hl [0] rfl) H locs h
theorem hd_Md_person : y_Md_person.cls ≠ "java/lang/invoke/MethodHandle" ∧ y_Md_person.cls ≠ "java/lang/invoke/VarHandle" ∧ (parseMethodDescriptor y_Md_person.desc).map (fun d => d.parameters.length) = some 4 := by decide +kernel
theorem d_Md_person_0 : decode b_Md_person 0 = .ok (.iload_n 1, 1) := by decide +kernel
theorem d_Md_person_1 : decode b_Md_person 1 = .ok (.iconst 0, 1) := by decide +kernel
theorem d_Md_person_2 : decode b_Md_person 2 = .ok (.bipush 6, 2) := by decide +kernel
theorem d_Md_person_4 : decode b_Md_person 4 = .ok (.invokestatic 44, 3) := by decide +kernel
theorem d_Md_person_7 : decode b_Md_person 7 = .ok (.ifCond .ne 5, 3) := by decide +kernel
theorem d_Md_person_10 : decode b_Md_person 10 = .ok (.iconst (-1), 1) := by decide +kernel
theorem d_Md_person_11 : decode b_Md_person 11 = .ok (.ireturn, 1) := by decide +kernel
theorem d_Md_person_12 : decode b_Md_person 12 = .ok (.iload_n 2, 1) := by decide +kernel
theorem d_Md_person_13 : decode b_Md_person 13 = .ok (.iconst 0, 1) := by decide +kernel
theorem d_Md_person_14 : decode b_Md_person 14 = .ok (.bipush 9, 2) := by decide +kernel
theorem d_Md_person_16 : decode b_Md_person 16 = .ok (.invokestatic 44, 3) := by decide +kernel
theorem d_Md_person_19 : decode b_Md_person 19 = .ok (.ifCond .eq 24, 3) := by decide +kernel
theorem d_Md_person_22 : decode b_Md_person 22 = .ok (.iload_n 3, 1) := by decide +kernel
theorem d_Md_person_23 : decode b_Md_person 23 = .ok (.iconst 1, 1) := by decide +kernel
theorem d_Md_person_24 : decode b_Md_person 24 = .ok (.bipush 30, 2) := by decide +kernel
theorem d_Md_person_26 : decode b_Md_person 26 = .ok (.invokestatic 44, 3) := by decide +kernel
theorem d_Md_person_29 : decode b_Md_person 29 = .ok (.ifCond .eq 14, 3) := by decide +kernel
theorem d_Md_person_32 : decode b_Md_person 32 = .ok (.iload 4, 2) := by decide +kernel
theorem d_Md_person_34 : decode b_Md_person 34 = .ok (.iconst 0, 1) := by decide +kernel
theorem d_Md_person_35 : decode b_Md_person 35 = .ok (.bipush 9, 2) := by decide +kernel
theorem d_Md_person_37 : decode b_Md_person 37 = .ok (.invokestatic 44, 3) := by decide +kernel
theorem d_Md_person_40 : decode b_Md_person 40 = .ok (.ifCond .ne 6, 3) := by decide +kernel
theorem d_Md_person_43 : decode b_Md_person 43 = .ok (.bipush (-2), 2) := by decide +kernel
theorem d_Md_person_45 : decode b_Md_person 45 = .ok (.ireturn, 1) := by decide +kernel
theorem d_Md_person_46 : decode b_Md_person 46 = .ok (.aload_n 0, 1) := by decide +kernel
theorem d_Md_person_47 : decode b_Md_person 47 = .ok (.getfield 9, 3) := by decide +kernel
theorem d_Md_person_50 : decode b_Md_person 50 = .ok (.iconst 0, 1) := by decide +kernel
theorem d_Md_person_51 : decode b_Md_person 51 = .ok (.iaload, 1) := by decide +kernel
theorem d_Md_person_52 : decode b_Md_person 52 = .ok (.bipush 6, 2) := by decide +kernel
theorem d_Md_person_54 : decode b_Md_person 54 = .ok (.if_icmp .ne 6, 3) := by decide +kernel
theorem d_Md_person_57 : decode b_Md_person 57 = .ok (.bipush (-4), 2) := by decide +kernel
theorem d_Md_person_59 : decode b_Md_person 59 = .ok (.ireturn, 1) := by decide +kernel
theorem d_Md_person_60 : decode b_Md_person 60 = .ok (.aload_n 0, 1) := by decide +kernel
theorem d_Md_person_61 : decode b_Md_person 61 = .ok (.getfield 9, 3) := by decide +kernel
theorem d_Md_person_64 : decode b_Md_person 64 = .ok (.iconst 0, 1) := by decide +kernel
theorem d_Md_person_65 : decode b_Md_person 65 = .ok (.iaload, 1) := by decide +kernel
theorem d_Md_person_66 : decode b_Md_person 66 = .ok (.istore 5, 2) := by decide +kernel
theorem d_Md_person_68 : decode b_Md_person 68 = .ok (.aload_n 0, 1) := by decide +kernel
theorem d_Md_person_69 : decode b_Md_person 69 = .ok (.getfield 9, 3) := by decide +kernel
theorem d_Md_person_72 : decode b_Md_person 72 = .ok (.bipush 10, 2) := by decide +kernel
theorem d_Md_person_74 : decode b_Md_person 74 = .ok (.iload 5, 2) := by decide +kernel
theorem d_Md_person_76 : decode b_Md_person 76 = .ok (.iadd, 1) := by decide +kernel
theorem d_Md_person_77 : decode b_Md_person 77 = .ok (.iload_n 1, 1) := by decide +kernel
theorem d_Md_person_78 : decode b_Md_person 78 = .ok (.iastore, 1) := by decide +kernel
theorem d_Md_person_79 : decode b_Md_person 79 = .ok (.aload_n 0, 1) := by decide +kernel
theorem d_Md_person_80 : decode b_Md_person 80 = .ok (.getfield 9, 3) := by decide +kernel
theorem d_Md_person_83 : decode b_Md_person 83 = .ok (.bipush 16, 2) := by decide +kernel
theorem d_Md_person_85 : decode b_Md_person 85 = .ok (.iload 5, 2) := by decide +kernel
theorem d_Md_person_87 : decode b_Md_person 87 = .ok (.iadd, 1) := by decide +kernel
theorem d_Md_person_88 : decode b_Md_person 88 = .ok (.iload_n 2, 1) := by decide +kernel
theorem d_Md_person_89 : decode b_Md_person 89 = .ok (.iastore, 1) := by decide +kernel
theorem d_Md_person_90 : decode b_Md_person 90 = .ok (.aload_n 0, 1) := by decide +kernel
theorem d_Md_person_91 : decode b_Md_person 91 = .ok (.getfield 9, 3) := by decide +kernel
theorem d_Md_person_94 : decode b_Md_person 94 = .ok (.bipush 22, 2) := by decide +kernel
theorem d_Md_person_96 : decode b_Md_person 96 = .ok (.iload 5, 2) := by decide +kernel
theorem d_Md_person_98 : decode b_Md_person 98 = .ok (.iadd, 1) := by decide +kernel
theorem d_Md_person_99 : decode b_Md_person 99 = .ok (.iload_n 3, 1) := by decide +kernel
theorem d_Md_person_100 : decode b_Md_person 100 = .ok (.iastore, 1) := by decide +kernel
theorem d_Md_person_101 : decode b_Md_person 101 = .ok (.aload_n 0, 1) := by decide +kernel
theorem d_Md_person_102 : decode b_Md_person 102 = .ok (.getfield 9, 3) := by decide +kernel
theorem d_Md_person_105 : decode b_Md_person 105 = .ok (.bipush 28, 2) := by decide +kernel
theorem d_Md_person_107 : decode b_Md_person 107 = .ok (.iload 5, 2) := by decide +kernel
theorem d_Md_person_109 : decode b_Md_person 109 = .ok (.iadd, 1) := by decide +kernel
theorem d_Md_person_110 : decode b_Md_person 110 = .ok (.iload 4, 2) := by decide +kernel
theorem d_Md_person_112 : decode b_Md_person 112 = .ok (.iastore, 1) := by decide +kernel
theorem d_Md_person_113 : decode b_Md_person 113 = .ok (.aload_n 0, 1) := by decide +kernel
theorem d_Md_person_114 : decode b_Md_person 114 = .ok (.getfield 9, 3) := by decide +kernel
theorem d_Md_person_117 : decode b_Md_person 117 = .ok (.iconst 0, 1) := by decide +kernel
theorem d_Md_person_118 : decode b_Md_person 118 = .ok (.dup2, 1) := by decide +kernel
theorem d_Md_person_119 : decode b_Md_person 119 = .ok (.iaload, 1) := by decide +kernel
theorem d_Md_person_120 : decode b_Md_person 120 = .ok (.iconst 1, 1) := by decide +kernel
theorem d_Md_person_121 : decode b_Md_person 121 = .ok (.iadd, 1) := by decide +kernel
theorem d_Md_person_122 : decode b_Md_person 122 = .ok (.iastore, 1) := by decide +kernel
theorem d_Md_person_123 : decode b_Md_person 123 = .ok (.iload 5, 2) := by decide +kernel
theorem d_Md_person_125 : decode b_Md_person 125 = .ok (.ireturn, 1) := by decide +kernel
def p_Md_person (n : Nat) (v1 : Int32) (v2 : Int32) (v3 : Int32) (v4 : Int32) (I : Nat → Int32) (R : Nat → Nat → Int32) : Option (Int32 × MU) := (p_Md_in n v1 0 6).bind fun x2 => (if x2 = 0 then some ((-1), I, R) else (p_Md_in n v2 0 9).bind fun x4 => (if x4 = 0 then some ((-2), I, R) else (p_Md_in n v3 1 30).bind fun x6 => (if x6 = 0 then some ((-2), I, R) else (p_Md_in n v4 0 9).bind fun x8 => (if x8 = 0 then some ((-2), I, R) else (if (R 1 0) = 6 then some ((-4), I, R) else if ix (10 + (R 1 0)) 890 then if ix (16 + (R 1 0)) 890 then if ix (22 + (R 1 0)) 890 then if ix (28 + (R 1 0)) 890 then some ((R 1 0), I, (upR (upR (upR (upR (upR R 1 (10 + (R 1 0)).toNatClampNeg v1) 1 (16 + (R 1 0)).toNatClampNeg v2) 1 (22 + (R 1 0)).toNatClampNeg v3) 1 (28 + (R 1 0)).toNatClampNeg v4) 1 0 (((((upR (upR (upR (upR R 1 (10 + (R 1 0)).toNatClampNeg v1) 1 (16 + (R 1 0)).toNatClampNeg v2) 1 (22 + (R 1 0)).toNatClampNeg v3) 1 (28 + (R 1 0)).toNatClampNeg v4)) 1 0) + 1)))) else none else none else none else none)))))
set_option maxHeartbeats 4000000 in
theorem c_Md_person (l : Launch) (n : Nat) (v1 : Int32) (v2 : Int32) (v3 : Int32) (v4 : Int32) (I : Nat → Int32) (R : Nat → Nat → Int32)  : MMi l y_Md_person b_Md_person 6 .int (rL 6) (fun ad adK => [.int v1, .int v2, .int v3, .int v4]) I R (p_Md_person n v1 v2 v3 v4 I R) := by
  refine en_mi (by decide) rfl (fun _ _ => Nat.le_of_ble_eq_true rfl) ?_
  intro z hf p e s m args below meth c dC dI ad cI cZ A adK adV ls C hA h hr hlk hl
  have hl : lv_has ls 6 [(0, .ref (ad 0)), (1, .int v1), (2, .int v2), (3, .int v3), (4, .int v4)] := hl
  unfold p_Md_person at hf
  obtain ⟨hx, hb, hml, hown, hT, -⟩ := id C
  refine lv_iload_n hx hb d_Md_person_0 rfl (lv_at hl 1 rfl) ?_
  refine lv_iconst (v := 0) hx hb d_Md_person_1 (by decide) ?_
  refine lv_bipush (v := 6) hx hb d_Md_person_2 (by decide) ?_
  obtain ⟨x2, hc1, hf⟩ := op_bind hf
  refine ks_i (rest := []) hx hb hml hown hT (c_Md_in l n v1 0 6 _ hc1) (cbW 3 hT cd_Md_in rfl rfl ini_Md ml_Md_44 hd_Md_in ⟨Nat.le_of_ble_eq_true rfl, Nat.le_of_ble_eq_true rfl⟩) sm_Md_in rfl hl.1 rfl (Nat.le_of_ble_eq_true rfl) d_Md_person_4 ⟨Nat.zero_le _, Nat.zero_le _⟩ ?_
  refine lv_if_ne (tgt := 12) hx hb d_Md_person_7 (by decide) (fun hc => ?_) (fun hc => ?_)
  · have hf := op_f hc hf
    refine lv_iload_n hx hb d_Md_person_12 rfl (lv_at hl 2 rfl) ?_
    refine lv_iconst (v := 0) hx hb d_Md_person_13 (by decide) ?_
    refine lv_bipush (v := 9) hx hb d_Md_person_14 (by decide) ?_
    obtain ⟨x4, hc3, hf⟩ := op_bind hf
    refine ks_i (rest := []) hx hb hml hown hT (c_Md_in l n v2 0 9 _ hc3) (cbW 3 hT cd_Md_in rfl rfl ini_Md ml_Md_44 hd_Md_in ⟨Nat.le_of_ble_eq_true rfl, Nat.le_of_ble_eq_true rfl⟩) sm_Md_in rfl hl.1 rfl (Nat.le_of_ble_eq_true rfl) d_Md_person_16 ⟨Nat.zero_le _, Nat.zero_le _⟩ ?_
    refine lv_if_eq (tgt := 43) hx hb d_Md_person_19 (by decide) (fun hc => ?_) (fun hc => ?_)
    · have hf := op_t hc hf
      refine lv_bipush (v := (-2)) hx hb d_Md_person_43 (by decide) ?_
      exact rt_mi C h hr hlk hf rfl d_Md_person_45
    · have hf := op_f hc hf
      refine lv_iload_n hx hb d_Md_person_22 rfl (lv_at hl 3 rfl) ?_
      refine lv_iconst (v := 1) hx hb d_Md_person_23 (by decide) ?_
      refine lv_bipush (v := 30) hx hb d_Md_person_24 (by decide) ?_
      obtain ⟨x6, hc5, hf⟩ := op_bind hf
      refine ks_i (rest := []) hx hb hml hown hT (c_Md_in l n v3 1 30 _ hc5) (cbW 3 hT cd_Md_in rfl rfl ini_Md ml_Md_44 hd_Md_in ⟨Nat.le_of_ble_eq_true rfl, Nat.le_of_ble_eq_true rfl⟩) sm_Md_in rfl hl.1 rfl (Nat.le_of_ble_eq_true rfl) d_Md_person_26 ⟨Nat.zero_le _, Nat.zero_le _⟩ ?_
      refine lv_if_eq (tgt := 43) hx hb d_Md_person_29 (by decide) (fun hc => ?_) (fun hc => ?_)
      · have hf := op_t hc hf
        refine lv_bipush (v := (-2)) hx hb d_Md_person_43 (by decide) ?_
        exact rt_mi C h hr hlk hf rfl d_Md_person_45
      · have hf := op_f hc hf
        refine lv_iload hx hb d_Md_person_32 (lv_at hl 4 rfl) ?_
        refine lv_iconst (v := 0) hx hb d_Md_person_34 (by decide) ?_
        refine lv_bipush (v := 9) hx hb d_Md_person_35 (by decide) ?_
        obtain ⟨x8, hc7, hf⟩ := op_bind hf
        refine ks_i (rest := []) hx hb hml hown hT (c_Md_in l n v4 0 9 _ hc7) (cbW 3 hT cd_Md_in rfl rfl ini_Md ml_Md_44 hd_Md_in ⟨Nat.le_of_ble_eq_true rfl, Nat.le_of_ble_eq_true rfl⟩) sm_Md_in rfl hl.1 rfl (Nat.le_of_ble_eq_true rfl) d_Md_person_37 ⟨Nat.zero_le _, Nat.zero_le _⟩ ?_
        refine lv_if_ne (tgt := 46) hx hb d_Md_person_40 (by decide) (fun hc => ?_) (fun hc => ?_)
        · have hf := op_f hc hf
          refine lv_aload_n hx hb d_Md_person_46 rfl (lv_at hl 0 rfl) ?_
          refine mg_1 C h d_Md_person_47 ?_
          refine lv_iconst (v := 0) hx hb d_Md_person_50 (by decide) ?_
          refine ma_1 C h (j := 0) (by decide) (show ix 0 890 by decide) d_Md_person_51 ?_
          refine lv_bipush (v := 6) hx hb d_Md_person_52 (by decide) ?_
          refine lv_icmp_ne (tgt := 60) hx hb d_Md_person_54 (by decide) (fun hc => ?_) (fun hc => ?_)
          · have hf := op_f hc hf
            refine lv_aload_n hx hb d_Md_person_60 rfl (lv_at hl 0 rfl) ?_
            refine mg_1 C h d_Md_person_61 ?_
            refine lv_iconst (v := 0) hx hb d_Md_person_64 (by decide) ?_
            refine ma_1 C h (j := 0) (by decide) (show ix 0 890 by decide) d_Md_person_65 ?_
            refine lv_istore (lv' := [(5, .int (R 1 0)), (0, .ref (ad 0)), (1, .int v1), (2, .int v2), (3, .int v3), (4, .int v4)]) hx hb d_Md_person_66 hl (by decide) rfl (fun ls hl => ?_)
            refine lv_aload_n hx hb d_Md_person_68 rfl (lv_at hl 1 rfl) ?_
            refine mg_1 C h d_Md_person_69 ?_
            refine lv_bipush (v := 10) hx hb d_Md_person_72 (by decide) ?_
            refine lv_iload hx hb d_Md_person_74 (lv_at hl 0 rfl) ?_
            refine lv_iadd hx hb d_Md_person_76 ?_
            refine lv_iload_n hx hb d_Md_person_77 rfl (lv_at hl 2 rfl) ?_
            obtain ⟨h9, hf⟩ := op_if hf
            refine ms_1 C h rfl h9 d_Md_person_78 (fun H locs h => ?_)
            refine lv_aload_n hx hb d_Md_person_79 rfl (lv_at hl 1 rfl) ?_
            refine mg_1 C h d_Md_person_80 ?_
            refine lv_bipush (v := 16) hx hb d_Md_person_83 (by decide) ?_
            refine lv_iload hx hb d_Md_person_85 (lv_at hl 0 rfl) ?_
            refine lv_iadd hx hb d_Md_person_87 ?_
            refine lv_iload_n hx hb d_Md_person_88 rfl (lv_at hl 3 rfl) ?_
            obtain ⟨h10, hf⟩ := op_if hf
            refine ms_1 C h rfl h10 d_Md_person_89 (fun H locs h => ?_)
            refine lv_aload_n hx hb d_Md_person_90 rfl (lv_at hl 1 rfl) ?_
            refine mg_1 C h d_Md_person_91 ?_
            refine lv_bipush (v := 22) hx hb d_Md_person_94 (by decide) ?_
            refine lv_iload hx hb d_Md_person_96 (lv_at hl 0 rfl) ?_
            refine lv_iadd hx hb d_Md_person_98 ?_
            refine lv_iload_n hx hb d_Md_person_99 rfl (lv_at hl 4 rfl) ?_
            obtain ⟨h11, hf⟩ := op_if hf
            refine ms_1 C h rfl h11 d_Md_person_100 (fun H locs h => ?_)
            refine lv_aload_n hx hb d_Md_person_101 rfl (lv_at hl 1 rfl) ?_
            refine mg_1 C h d_Md_person_102 ?_
            refine lv_bipush (v := 28) hx hb d_Md_person_105 (by decide) ?_
            refine lv_iload hx hb d_Md_person_107 (lv_at hl 0 rfl) ?_
            refine lv_iadd hx hb d_Md_person_109 ?_
            refine lv_iload hx hb d_Md_person_110 (lv_at hl 5 rfl) ?_
            obtain ⟨h12, hf⟩ := op_if hf
            refine ms_1 C h rfl h12 d_Md_person_112 (fun H locs h => ?_)
            refine lv_aload_n hx hb d_Md_person_113 rfl (lv_at hl 1 rfl) ?_
            refine mg_1 C h d_Md_person_114 ?_
            refine lv_iconst (v := 0) hx hb d_Md_person_117 (by decide) ?_
            refine lv_dup2_11 hx hb d_Md_person_118 rfl rfl ?_
            refine ma_1 C h (j := 0) (by decide) (show ix 0 890 by decide) d_Md_person_119 ?_
            refine lv_iconst (v := 1) hx hb d_Md_person_120 (by decide) ?_
            refine lv_iadd hx hb d_Md_person_121 ?_
            refine ms_1 C h (j := 0) (by decide) (show ix 0 890 by decide) d_Md_person_122 (fun H locs h => ?_)
            refine lv_iload hx hb d_Md_person_123 (lv_at hl 0 rfl) ?_
            exact rt_mi C h hr hlk hf rfl d_Md_person_125
          · have hf := op_t hc hf
            refine lv_bipush (v := (-4)) hx hb d_Md_person_57 (by decide) ?_
            exact rt_mi C h hr hlk hf rfl d_Md_person_59
        · have hf := op_t hc hf
          refine lv_bipush (v := (-2)) hx hb d_Md_person_43 (by decide) ?_
          exact rt_mi C h hr hlk hf rfl d_Md_person_45
  · have hf := op_t hc hf
    refine lv_iconst (v := (-1)) hx hb d_Md_person_10 (by decide) ?_
    exact rt_mi C h hr hlk hf rfl d_Md_person_11
theorem hd_Md_told : y_Md_told.cls ≠ "java/lang/invoke/MethodHandle" ∧ y_Md_told.cls ≠ "java/lang/invoke/VarHandle" ∧ (parseMethodDescriptor y_Md_told.desc).map (fun d => d.parameters.length) = some 1 := by decide +kernel
theorem d_Md_told_0 : decode b_Md_told 0 = .ok (.iload_n 1, 1) := by decide +kernel
theorem d_Md_told_1 : decode b_Md_told 1 = .ok (.tableswitch 103 0 6 #[43, 52, 62, 71, 79, 87, 95], 43) := by decide +kernel
theorem d_Md_told_44 : decode b_Md_told 44 = .ok (.aload_n 0, 1) := by decide +kernel
theorem d_Md_told_45 : decode b_Md_told 45 = .ok (.sipush 170, 3) := by decide +kernel
theorem d_Md_told_48 : decode b_Md_told 48 = .ok (.iconst 2, 1) := by decide +kernel
theorem d_Md_told_49 : decode b_Md_told 49 = .ok (.invokevirtual 135, 3) := by decide +kernel
theorem d_Md_told_52 : decode b_Md_told 52 = .ok (.ireturn, 1) := by decide +kernel
theorem d_Md_told_53 : decode b_Md_told 53 = .ok (.aload_n 0, 1) := by decide +kernel
theorem d_Md_told_54 : decode b_Md_told 54 = .ok (.sipush 175, 3) := by decide +kernel
theorem d_Md_told_57 : decode b_Md_told 57 = .ok (.bipush 99, 2) := by decide +kernel
theorem d_Md_told_59 : decode b_Md_told 59 = .ok (.invokevirtual 135, 3) := by decide +kernel
theorem d_Md_told_62 : decode b_Md_told 62 = .ok (.ireturn, 1) := by decide +kernel
theorem d_Md_told_63 : decode b_Md_told 63 = .ok (.aload_n 0, 1) := by decide +kernel
theorem d_Md_told_64 : decode b_Md_told 64 = .ok (.sipush 180, 3) := by decide +kernel
theorem d_Md_told_67 : decode b_Md_told 67 = .ok (.iconst 0, 1) := by decide +kernel
theorem d_Md_told_68 : decode b_Md_told 68 = .ok (.invokevirtual 135, 3) := by decide +kernel
theorem d_Md_told_71 : decode b_Md_told 71 = .ok (.ireturn, 1) := by decide +kernel
theorem d_Md_told_72 : decode b_Md_told 72 = .ok (.aload_n 0, 1) := by decide +kernel
theorem d_Md_told_73 : decode b_Md_told 73 = .ok (.getfield 9, 3) := by decide +kernel
theorem d_Md_told_76 : decode b_Md_told 76 = .ok (.bipush 6, 2) := by decide +kernel
theorem d_Md_told_78 : decode b_Md_told 78 = .ok (.iaload, 1) := by decide +kernel
theorem d_Md_told_79 : decode b_Md_told 79 = .ok (.ireturn, 1) := by decide +kernel
theorem d_Md_told_80 : decode b_Md_told 80 = .ok (.aload_n 0, 1) := by decide +kernel
theorem d_Md_told_81 : decode b_Md_told 81 = .ok (.getfield 9, 3) := by decide +kernel
theorem d_Md_told_84 : decode b_Md_told 84 = .ok (.bipush 7, 2) := by decide +kernel
theorem d_Md_told_86 : decode b_Md_told 86 = .ok (.iaload, 1) := by decide +kernel
theorem d_Md_told_87 : decode b_Md_told 87 = .ok (.ireturn, 1) := by decide +kernel
theorem d_Md_told_88 : decode b_Md_told 88 = .ok (.aload_n 0, 1) := by decide +kernel
theorem d_Md_told_89 : decode b_Md_told 89 = .ok (.getfield 9, 3) := by decide +kernel
theorem d_Md_told_92 : decode b_Md_told 92 = .ok (.bipush 8, 2) := by decide +kernel
theorem d_Md_told_94 : decode b_Md_told 94 = .ok (.iaload, 1) := by decide +kernel
theorem d_Md_told_95 : decode b_Md_told 95 = .ok (.ireturn, 1) := by decide +kernel
theorem d_Md_told_96 : decode b_Md_told 96 = .ok (.aload_n 0, 1) := by decide +kernel
theorem d_Md_told_97 : decode b_Md_told 97 = .ok (.getfield 9, 3) := by decide +kernel
theorem d_Md_told_100 : decode b_Md_told 100 = .ok (.bipush 9, 2) := by decide +kernel
theorem d_Md_told_102 : decode b_Md_told 102 = .ok (.iaload, 1) := by decide +kernel
theorem d_Md_told_103 : decode b_Md_told 103 = .ok (.ireturn, 1) := by decide +kernel
theorem d_Md_told_104 : decode b_Md_told 104 = .ok (.iconst (-1), 1) := by decide +kernel
theorem d_Md_told_105 : decode b_Md_told 105 = .ok (.ireturn, 1) := by decide +kernel
def p_Md_told (n : Nat) (v1 : Int32) (I : Nat → Int32) (R : Nat → Nat → Int32) : Option (Int32) := (if v1 = 0 then (p_Md_tellsOf n 170 2 I R).bind fun x2 => some x2 else if v1 = 1 then (p_Md_tellsOf n 175 99 I R).bind fun x4 => some x4 else if v1 = 2 then (p_Md_tellsOf n 180 0 I R).bind fun x6 => some x6 else if v1 = 3 then some (R 1 6) else if v1 = 4 then some (R 1 7) else if v1 = 5 then some (R 1 8) else if v1 = 6 then some (R 1 9) else some (-1))
set_option maxHeartbeats 4000000 in
theorem c_Md_told (l : Launch) (n : Nat) (v1 : Int32) (I : Nat → Int32) (R : Nat → Nat → Int32)  : MMi l y_Md_told b_Md_told 2 .int (rL 6) (fun ad adK => [.int v1]) I R ((p_Md_told n v1 I R).map fun r => (r, I, R)) := by
  refine en_mi (by decide) rfl (fun _ _ => Nat.le_of_ble_eq_true rfl) ?_
  intro z hz p e s m args below meth c dC dI ad cI cZ A adK adV ls C hA h hr hlk hl
  have hl : lv_has ls 2 [(0, .ref (ad 0)), (1, .int v1)] := hl
  obtain ⟨z, hf, rfl⟩ := op_map hz
  unfold p_Md_told at hf
  obtain ⟨hx, hb, hml, hown, hT, -⟩ := id C
  refine lv_iload_n hx hb d_Md_told_0 rfl (lv_at hl 1 rfl) ?_
  by_cases hs0 : v1 = 0
  · have hf := op_t hs0 hf
    refine lv_tableIn (tgt := 44) (off := 43) hx hb d_Md_told_1 (by rw [hs0]; decide) (by rw [hs0]; decide) (by rw [hs0]; decide) (by decide) ?_
    refine lv_aload_n hx hb d_Md_told_44 rfl (lv_at hl 0 rfl) ?_
    refine lv_sipush (v := 170) hx hb d_Md_told_45 (by decide) ?_
    refine lv_iconst (v := 2) hx hb d_Md_told_48 (by decide) ?_
    obtain ⟨x2, hc1, hf⟩ := op_bind hf
    refine kc_r (rest := []) C h hA (c_Md_tellsOf l n 170 2 I R) hc1 (cbW 2 hT cd_Md_tellsOf rfl rfl ini_Md ml_Md_135 hd_Md_tellsOf ⟨Nat.le_of_ble_eq_true rfl, Nat.le_of_ble_eq_true rfl⟩) im_Md_tellsOf sp_Md_tellsOf rfl hl.1 rfl (Nat.le_of_ble_eq_true rfl) d_Md_told_49 ⟨Nat.zero_le _, Nat.zero_le _⟩ (fun H locs h => ?_)
    exact rt_mr C h hr hlk hf rfl d_Md_told_52
  · have hf := op_f hs0 hf
    by_cases hs1 : v1 = 1
    · have hf := op_t hs1 hf
      refine lv_tableIn (tgt := 53) (off := 52) hx hb d_Md_told_1 (by rw [hs1]; decide) (by rw [hs1]; decide) (by rw [hs1]; decide) (by decide) ?_
      refine lv_aload_n hx hb d_Md_told_53 rfl (lv_at hl 0 rfl) ?_
      refine lv_sipush (v := 175) hx hb d_Md_told_54 (by decide) ?_
      refine lv_bipush (v := 99) hx hb d_Md_told_57 (by decide) ?_
      obtain ⟨x4, hc3, hf⟩ := op_bind hf
      refine kc_r (rest := []) C h hA (c_Md_tellsOf l n 175 99 I R) hc3 (cbW 2 hT cd_Md_tellsOf rfl rfl ini_Md ml_Md_135 hd_Md_tellsOf ⟨Nat.le_of_ble_eq_true rfl, Nat.le_of_ble_eq_true rfl⟩) im_Md_tellsOf sp_Md_tellsOf rfl hl.1 rfl (Nat.le_of_ble_eq_true rfl) d_Md_told_59 ⟨Nat.zero_le _, Nat.zero_le _⟩ (fun H locs h => ?_)
      exact rt_mr C h hr hlk hf rfl d_Md_told_62
    · have hf := op_f hs1 hf
      by_cases hs2 : v1 = 2
      · have hf := op_t hs2 hf
        refine lv_tableIn (tgt := 63) (off := 62) hx hb d_Md_told_1 (by rw [hs2]; decide) (by rw [hs2]; decide) (by rw [hs2]; decide) (by decide) ?_
        refine lv_aload_n hx hb d_Md_told_63 rfl (lv_at hl 0 rfl) ?_
        refine lv_sipush (v := 180) hx hb d_Md_told_64 (by decide) ?_
        refine lv_iconst (v := 0) hx hb d_Md_told_67 (by decide) ?_
        obtain ⟨x6, hc5, hf⟩ := op_bind hf
        refine kc_r (rest := []) C h hA (c_Md_tellsOf l n 180 0 I R) hc5 (cbW 2 hT cd_Md_tellsOf rfl rfl ini_Md ml_Md_135 hd_Md_tellsOf ⟨Nat.le_of_ble_eq_true rfl, Nat.le_of_ble_eq_true rfl⟩) im_Md_tellsOf sp_Md_tellsOf rfl hl.1 rfl (Nat.le_of_ble_eq_true rfl) d_Md_told_68 ⟨Nat.zero_le _, Nat.zero_le _⟩ (fun H locs h => ?_)
        exact rt_mr C h hr hlk hf rfl d_Md_told_71
      · have hf := op_f hs2 hf
        by_cases hs3 : v1 = 3
        · have hf := op_t hs3 hf
          refine lv_tableIn (tgt := 72) (off := 71) hx hb d_Md_told_1 (by rw [hs3]; decide) (by rw [hs3]; decide) (by rw [hs3]; decide) (by decide) ?_
          refine lv_aload_n hx hb d_Md_told_72 rfl (lv_at hl 0 rfl) ?_
          refine mg_1 C h d_Md_told_73 ?_
          refine lv_bipush (v := 6) hx hb d_Md_told_76 (by decide) ?_
          refine ma_1 C h (j := 6) (by decide) (show ix 6 890 by decide) d_Md_told_78 ?_
          exact rt_mr C h hr hlk hf rfl d_Md_told_79
        · have hf := op_f hs3 hf
          by_cases hs4 : v1 = 4
          · have hf := op_t hs4 hf
            refine lv_tableIn (tgt := 80) (off := 79) hx hb d_Md_told_1 (by rw [hs4]; decide) (by rw [hs4]; decide) (by rw [hs4]; decide) (by decide) ?_
            refine lv_aload_n hx hb d_Md_told_80 rfl (lv_at hl 0 rfl) ?_
            refine mg_1 C h d_Md_told_81 ?_
            refine lv_bipush (v := 7) hx hb d_Md_told_84 (by decide) ?_
            refine ma_1 C h (j := 7) (by decide) (show ix 7 890 by decide) d_Md_told_86 ?_
            exact rt_mr C h hr hlk hf rfl d_Md_told_87
          · have hf := op_f hs4 hf
            by_cases hs5 : v1 = 5
            · have hf := op_t hs5 hf
              refine lv_tableIn (tgt := 88) (off := 87) hx hb d_Md_told_1 (by rw [hs5]; decide) (by rw [hs5]; decide) (by rw [hs5]; decide) (by decide) ?_
              refine lv_aload_n hx hb d_Md_told_88 rfl (lv_at hl 0 rfl) ?_
              refine mg_1 C h d_Md_told_89 ?_
              refine lv_bipush (v := 8) hx hb d_Md_told_92 (by decide) ?_
              refine ma_1 C h (j := 8) (by decide) (show ix 8 890 by decide) d_Md_told_94 ?_
              exact rt_mr C h hr hlk hf rfl d_Md_told_95
            · have hf := op_f hs5 hf
              by_cases hs6 : v1 = 6
              · have hf := op_t hs6 hf
                refine lv_tableIn (tgt := 96) (off := 95) hx hb d_Md_told_1 (by rw [hs6]; decide) (by rw [hs6]; decide) (by rw [hs6]; decide) (by decide) ?_
                refine lv_aload_n hx hb d_Md_told_96 rfl (lv_at hl 0 rfl) ?_
                refine mg_1 C h d_Md_told_97 ?_
                refine lv_bipush (v := 9) hx hb d_Md_told_100 (by decide) ?_
                refine ma_1 C h (j := 9) (by decide) (show ix 9 890 by decide) d_Md_told_102 ?_
                exact rt_mr C h hr hlk hf rfl d_Md_told_103
              · have hf := op_f hs6 hf
                have et0 := tn_ne (v := 0) (by decide) hs0
                have et1 := tn_ne (v := 1) (by decide) hs1
                have et2 := tn_ne (v := 2) (by decide) hs2
                have et3 := tn_ne (v := 3) (by decide) hs3
                have et4 := tn_ne (v := 4) (by decide) hs4
                have et5 := tn_ne (v := 5) (by decide) hs5
                have et6 := tn_ne (v := 6) (by decide) hs6
                refine lv_tableOut (tgt := 104) hx hb d_Md_told_1 (by omega) (by decide) ?_
                refine lv_iconst (v := (-1)) hx hb d_Md_told_104 (by decide) ?_
                exact rt_mr C h hr hlk hf rfl d_Md_told_105
