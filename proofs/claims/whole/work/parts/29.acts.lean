theorem hd_Wa_begin : y_Wa_begin.cls ≠ "java/lang/invoke/MethodHandle" ∧ y_Wa_begin.cls ≠ "java/lang/invoke/VarHandle" ∧ (parseMethodDescriptor y_Wa_begin.desc).map (fun d => d.parameters.length) = some 2 := by decide +kernel
theorem d_Wa_begin_0 : decode b_Wa_begin 0 = .ok (.aload_n 1, 1) := by decide +kernel
theorem d_Wa_begin_1 : decode b_Wa_begin 1 = .ok (.arraylength, 1) := by decide +kernel
theorem d_Wa_begin_2 : decode b_Wa_begin 2 = .ok (.ifCond .ne 7, 3) := by decide +kernel
theorem d_Wa_begin_5 : decode b_Wa_begin 5 = .ok (.iconst (-1), 1) := by decide +kernel
theorem d_Wa_begin_6 : decode b_Wa_begin 6 = .ok (.goto 8, 3) := by decide +kernel
theorem d_Wa_begin_9 : decode b_Wa_begin 9 = .ok (.aload_n 1, 1) := by decide +kernel
theorem d_Wa_begin_10 : decode b_Wa_begin 10 = .ok (.iconst 0, 1) := by decide +kernel
theorem d_Wa_begin_11 : decode b_Wa_begin 11 = .ok (.iaload, 1) := by decide +kernel
theorem d_Wa_begin_12 : decode b_Wa_begin 12 = .ok (.iconst 1, 1) := by decide +kernel
theorem d_Wa_begin_13 : decode b_Wa_begin 13 = .ok (.iadd, 1) := by decide +kernel
theorem d_Wa_begin_14 : decode b_Wa_begin 14 = .ok (.istore_n 2, 1) := by decide +kernel
theorem d_Wa_begin_15 : decode b_Wa_begin 15 = .ok (.iload_n 2, 1) := by decide +kernel
theorem d_Wa_begin_16 : decode b_Wa_begin 16 = .ok (.iconst 1, 1) := by decide +kernel
theorem d_Wa_begin_17 : decode b_Wa_begin 17 = .ok (.if_icmp .ge 4, 3) := by decide +kernel
theorem d_Wa_begin_20 : decode b_Wa_begin 20 = .ok (.return_, 1) := by decide +kernel
theorem d_Wa_begin_21 : decode b_Wa_begin 21 = .ok (.aload_n 1, 1) := by decide +kernel
theorem d_Wa_begin_22 : decode b_Wa_begin 22 = .ok (.iconst 0, 1) := by decide +kernel
theorem d_Wa_begin_23 : decode b_Wa_begin 23 = .ok (.iload_n 2, 1) := by decide +kernel
theorem d_Wa_begin_24 : decode b_Wa_begin 24 = .ok (.iastore, 1) := by decide +kernel
theorem d_Wa_begin_25 : decode b_Wa_begin 25 = .ok (.iload_n 2, 1) := by decide +kernel
theorem d_Wa_begin_26 : decode b_Wa_begin 26 = .ok (.aload_n 1, 1) := by decide +kernel
theorem d_Wa_begin_27 : decode b_Wa_begin 27 = .ok (.arraylength, 1) := by decide +kernel
theorem d_Wa_begin_28 : decode b_Wa_begin 28 = .ok (.if_icmp .ge 7, 3) := by decide +kernel
theorem d_Wa_begin_31 : decode b_Wa_begin 31 = .ok (.aload_n 1, 1) := by decide +kernel
theorem d_Wa_begin_32 : decode b_Wa_begin 32 = .ok (.iload_n 2, 1) := by decide +kernel
theorem d_Wa_begin_33 : decode b_Wa_begin 33 = .ok (.iload_n 0, 1) := by decide +kernel
theorem d_Wa_begin_34 : decode b_Wa_begin 34 = .ok (.iastore, 1) := by decide +kernel
theorem d_Wa_begin_35 : decode b_Wa_begin 35 = .ok (.return_, 1) := by decide +kernel
def p_Wa_begin (n : Nat) (E : PE) (v0 : Int32) (F : Nat → Nat → Int32) (G : Nat → Nat → Int32) (P : Nat → Nat → Option Nat) (N : Nat → Nat) : Option (CU) := (if 1 ≤ ((G 5 0) + 1) then (if 21 ≤ ((G 5 0) + 1) then some (F, (upR G 5 0 ((G 5 0) + 1)), P, N) else if ix ((G 5 0) + 1) 21 then some (F, (upR (upR G 5 0 ((G 5 0) + 1)) 5 ((G 5 0) + 1).toNatClampNeg v0), P, N) else none) else some (F, G, P, N))
set_option maxHeartbeats 4000000 in
theorem c_Wa_begin (l : Launch) (n : Nat) (E : PE) (v0 : Int32) (F : Nat → Nat → Int32) (G : Nat → Nat → Int32) (P : Nat → Nat → Option Nat) (N : Nat → Nat)  : CMv l y_Wa_begin b_Wa_begin 3 (rL 5) E (fun ad => [.int v0, .ref (ad 5)]) F G P N (p_Wa_begin n E v0 F G P N) := by
  refine en_cv (by decide) (fun _ => Nat.le_of_ble_eq_true rfl) ?_
  intro z hf p e s m args below meth c dC dI ad cI cZ cW cJ A adK adV ls C hA h hr hlk hl
  have hl : lv_has ls 3 [(0, .int v0), (1, .ref (ad 5))] := hl
  unfold p_Wa_begin at hf
  obtain ⟨hx, hb, hml, hown, hT, hK, hTS, hTR, hpS, hi⟩ := id C
  refine lv_aload_n hx hb d_Wa_begin_0 rfl (lv_at hl 1 rfl) ?_
  refine cl_5 hx hb hK h.1 d_Wa_begin_1 ?_
  refine lv_if_ne (tgt := 9) hx hb d_Wa_begin_2 (by decide) (fun _ => ?_) (fun hc => absurd hc (by decide))
  refine lv_aload_n hx hb d_Wa_begin_9 rfl (lv_at hl 1 rfl) ?_
  refine lv_iconst (v := 0) hx hb d_Wa_begin_10 (by decide) ?_
  refine ca_5 hx hb hK h.1 (j := 0) (by decide) (show ix 0 21 by decide) d_Wa_begin_11 ?_
  refine lv_iconst (v := 1) hx hb d_Wa_begin_12 (by decide) ?_
  refine lv_iadd hx hb d_Wa_begin_13 ?_
  refine lv_istore_n (lv' := [(2, .int ((G 5 0) + 1)), (0, .int v0), (1, .ref (ad 5))]) hx hb d_Wa_begin_14 rfl hl (by decide) rfl (fun ls hl => ?_)
  refine lv_iload_n hx hb d_Wa_begin_15 rfl (lv_at hl 0 rfl) ?_
  refine lv_iconst (v := 1) hx hb d_Wa_begin_16 (by decide) ?_
  refine lv_icmp_ge (tgt := 21) hx hb d_Wa_begin_17 (by decide) (fun hc => ?_) (fun hc => ?_)
  · have hf := op_t hc hf
    refine lv_aload_n hx hb d_Wa_begin_21 rfl (lv_at hl 2 rfl) ?_
    refine lv_iconst (v := 0) hx hb d_Wa_begin_22 (by decide) ?_
    refine lv_iload_n hx hb d_Wa_begin_23 rfl (lv_at hl 0 rfl) ?_
    refine cs_5 hx hb hK h (j := 0) (by decide) (show ix 0 21 by decide) d_Wa_begin_24 (fun H locs h => ?_)
    refine lv_iload_n hx hb d_Wa_begin_25 rfl (lv_at hl 0 rfl) ?_
    refine lv_aload_n hx hb d_Wa_begin_26 rfl (lv_at hl 2 rfl) ?_
    refine cl_5 hx hb hK h.1 d_Wa_begin_27 ?_
    refine lv_icmp_ge (tgt := 35) hx hb d_Wa_begin_28 (by decide) (fun hc => ?_) (fun hc => ?_)
    · have hf := op_t hc hf
      exact rt_cv C h hr hlk hf d_Wa_begin_35
    · have hf := op_f hc hf
      refine lv_aload_n hx hb d_Wa_begin_31 rfl (lv_at hl 2 rfl) ?_
      refine lv_iload_n hx hb d_Wa_begin_32 rfl (lv_at hl 0 rfl) ?_
      refine lv_iload_n hx hb d_Wa_begin_33 rfl (lv_at hl 1 rfl) ?_
      obtain ⟨h1, hf⟩ := op_if hf
      refine cs_5 hx hb hK h rfl h1 d_Wa_begin_34 (fun H locs h => ?_)
      exact rt_cv C h hr hlk hf d_Wa_begin_35
  · have hf := op_f hc hf
    exact rt_cv C h hr hlk hf d_Wa_begin_20
theorem hd_Wa_goes : y_Wa_goes.cls ≠ "java/lang/invoke/MethodHandle" ∧ y_Wa_goes.cls ≠ "java/lang/invoke/VarHandle" ∧ (parseMethodDescriptor y_Wa_goes.desc).map (fun d => d.parameters.length) = some 2 := by decide +kernel
theorem hds_Wa_goes : y_Wa_goes.name ≠ "<init>" ∧ (parseMethodDescriptor y_Wa_goes.desc).map (fun d => d.parameters.length) = some 2 := by decide +kernel
theorem d_Wa_goes_0 : decode b_Wa_goes 0 = .ok (.iconst 1, 1) := by decide +kernel
theorem d_Wa_goes_1 : decode b_Wa_goes 1 = .ok (.aload_n 2, 1) := by decide +kernel
theorem d_Wa_goes_2 : decode b_Wa_goes 2 = .ok (.invokestatic 46, 3) := by decide +kernel
theorem d_Wa_goes_5 : decode b_Wa_goes 5 = .ok (.iload_n 1, 1) := by decide +kernel
theorem d_Wa_goes_6 : decode b_Wa_goes 6 = .ok (.aload_n 0, 1) := by decide +kernel
theorem d_Wa_goes_7 : decode b_Wa_goes 7 = .ok (.getfield 13, 3) := by decide +kernel
theorem d_Wa_goes_10 : decode b_Wa_goes 10 = .ok (.iadd, 1) := by decide +kernel
theorem d_Wa_goes_11 : decode b_Wa_goes 11 = .ok (.ireturn, 1) := by decide +kernel
def p_Wa_goes (n : Nat) (E : PE) (v0 : Nat) (v1 : Int32) (F : Nat → Nat → Int32) (G : Nat → Nat → Int32) (P : Nat → Nat → Option Nat) (N : Nat → Nat) : Option (Int32 × CU) := (p_Wa_begin n E 1 F G P N).bind fun (F3, G4, P5, N6) => if eV E v0 = true then some ((v1 + (eD E v0 1)), F3, G4, P5, N6) else none
set_option maxHeartbeats 4000000 in
theorem c_Wa_goes (l : Launch) (n : Nat) (E : PE) (v0 : Nat) (v1 : Int32) (F : Nat → Nat → Int32) (G : Nat → Nat → Int32) (P : Nat → Nat → Option Nat) (N : Nat → Nat)  : CMi l y_Wa_goes b_Wa_goes 3 .int (rL 6) E (fun ad => [.ref v0, .int v1, .ref (ad 5)]) F G P N (p_Wa_goes n E v0 v1 F G P N) := by
  refine en_ci (by decide) (fun _ => Nat.le_of_ble_eq_true rfl) ?_
  intro z hf p e s m args below meth c dC dI ad cI cZ cW cJ A adK adV ls C hA h hr hlk hl
  have hl : lv_has ls 3 [(0, .ref v0), (1, .int v1), (2, .ref (ad 5))] := hl
  unfold p_Wa_goes at hf
  obtain ⟨hx, hb, hml, hown, hT, hK, hTS, hTR, hpS, hi⟩ := id C
  refine lv_iconst (v := 1) hx hb d_Wa_goes_0 (by decide) ?_
  refine lv_aload_n hx hb d_Wa_goes_1 rfl (lv_at hl 2 rfl) ?_
  obtain ⟨⟨F3, G4, P5, N6⟩, hc1, hf⟩ := op_bind hf
  try dsimp only at hf
  refine kxr_v h hA (va_runS (As := [.int 1, .ref (ad 5)]) (rest := []) ⟨hx, hb, hml, hown, hT⟩ (c_Wa_begin l n E 1 F G P N _ hc1 dC dI ad cI cZ cW cJ adK adV _) ⟨(cbW 2 hT cd_Wa_begin rfl rfl ini_Wa ml_Wa_46 hd_Wa_begin ⟨Nat.le_of_ble_eq_true rfl, Nat.le_of_ble_eq_true rfl⟩), hT _ sm_Wa_begin⟩ ⟨fun a U g mk q => ⟨q.1, cPre_bl a U g mk q.2⟩, fun U hU hW => ⟨rfl, cPre_to C h hA U hU hW⟩⟩ rfl rfl hl.1 rfl (lv_room (Nat.le_of_ble_eq_true rfl)) d_Wa_goes_2 ⟨Nat.zero_le _, Nat.zero_le _⟩) (fun H locs h => ?_)
  refine lv_iload_n hx hb d_Wa_goes_5 rfl (lv_at hl 1 rfl) ?_
  refine lv_aload_n hx hb d_Wa_goes_6 rfl (lv_at hl 0 rfl) ?_
  obtain ⟨h7, hf⟩ := op_if hf
  refine wg_1 hx hb hT hown hK ((cpS hpS h).1 v0 h7).1 ((cpS hpS h).1 v0 h7).2.1 fl_Wa_13 (fun _ h9 => h9) d_Wa_goes_7 ?_
  refine lv_iadd hx hb d_Wa_goes_10 ?_
  exact rt_ci C h hr hlk hf rfl d_Wa_goes_11
theorem hd_Qu_goes : y_Qu_goes.cls ≠ "java/lang/invoke/MethodHandle" ∧ y_Qu_goes.cls ≠ "java/lang/invoke/VarHandle" ∧ (parseMethodDescriptor y_Qu_goes.desc).map (fun d => d.parameters.length) = some 2 := by decide +kernel
theorem hds_Qu_goes : y_Qu_goes.name ≠ "<init>" ∧ (parseMethodDescriptor y_Qu_goes.desc).map (fun d => d.parameters.length) = some 2 := by decide +kernel
theorem d_Qu_goes_0 : decode b_Qu_goes 0 = .ok (.bipush 11, 2) := by decide +kernel
theorem d_Qu_goes_2 : decode b_Qu_goes 2 = .ok (.aload_n 2, 1) := by decide +kernel
theorem d_Qu_goes_3 : decode b_Qu_goes 3 = .ok (.invokestatic 13, 3) := by decide +kernel
theorem d_Qu_goes_6 : decode b_Qu_goes 6 = .ok (.aload_n 0, 1) := by decide +kernel
theorem d_Qu_goes_7 : decode b_Qu_goes 7 = .ok (.iload_n 1, 1) := by decide +kernel
theorem d_Qu_goes_8 : decode b_Qu_goes 8 = .ok (.iconst 3, 1) := by decide +kernel
theorem d_Qu_goes_9 : decode b_Qu_goes 9 = .ok (.imul, 1) := by decide +kernel
theorem d_Qu_goes_10 : decode b_Qu_goes 10 = .ok (.aload_n 2, 1) := by decide +kernel
theorem d_Qu_goes_11 : decode b_Qu_goes 11 = .ok (.invokespecial 17, 3) := by decide +kernel
theorem d_Qu_goes_14 : decode b_Qu_goes 14 = .ok (.ireturn, 1) := by decide +kernel
def p_Qu_goes (n : Nat) (E : PE) (v0 : Nat) (v1 : Int32) (F : Nat → Nat → Int32) (G : Nat → Nat → Int32) (P : Nat → Nat → Option Nat) (N : Nat → Nat) : Option (Int32 × CU) := (p_Wa_begin n E 11 F G P N).bind fun (F3, G4, P5, N6) => if eV E v0 = true then (p_Wa_goes n E v0 (v1 * 3) F3 G4 P5 N6).bind fun (x8, F9, G10, P11, N12) => some (x8, F9, G10, P11, N12) else none
set_option maxHeartbeats 4000000 in
theorem c_Qu_goes (l : Launch) (n : Nat) (E : PE) (v0 : Nat) (v1 : Int32) (F : Nat → Nat → Int32) (G : Nat → Nat → Int32) (P : Nat → Nat → Option Nat) (N : Nat → Nat)  : CMi l y_Qu_goes b_Qu_goes 3 .int (rL 7) E (fun ad => [.ref v0, .int v1, .ref (ad 5)]) F G P N (p_Qu_goes n E v0 v1 F G P N) := by
  refine en_ci (by decide) (fun _ => Nat.le_of_ble_eq_true rfl) ?_
  intro z hf p e s m args below meth c dC dI ad cI cZ cW cJ A adK adV ls C hA h hr hlk hl
  have hl : lv_has ls 3 [(0, .ref v0), (1, .int v1), (2, .ref (ad 5))] := hl
  unfold p_Qu_goes at hf
  obtain ⟨hx, hb, hml, hown, hT, hK, hTS, hTR, hpS, hi⟩ := id C
  refine lv_bipush (v := 11) hx hb d_Qu_goes_0 (by decide) ?_
  refine lv_aload_n hx hb d_Qu_goes_2 rfl (lv_at hl 2 rfl) ?_
  obtain ⟨⟨F3, G4, P5, N6⟩, hc1, hf⟩ := op_bind hf
  try dsimp only at hf
  refine kxr_v h hA (runSx (x := ⟨"LanternBridge$Quick", "begin", "(I[I)V"⟩) (As := [.int 11, .ref (ad 5)]) (rest := []) ⟨hx, hb, hml, hown, hT⟩ (c_Wa_begin l n E 11 F G P N _ hc1 dC dI ad cI cZ cW cJ adK adV _) rfl rfl (rL_ok (d := 5) (d' := 7) (k := 3) (by decide) (by decide)) (pay_in hT (goodW cd_Wa_begin)) List.mem_cons_self (hT _ ini_Wa) (hT _ cd_Wa_begin) (hT _ ml_Qu_13) (hT _ w4_100) rfl rfl (hT _ sm_Wa_begin) hd_Wa_begin ⟨fun a U g mk q => ⟨q.1, cPre_bl a U g mk q.2⟩, fun U hU hW => ⟨rfl, cPre_to C h hA U hU hW⟩⟩ rfl rfl hl.1 rfl (lv_room (Nat.le_of_ble_eq_true rfl)) d_Qu_goes_3 ⟨Nat.zero_le _, Nat.zero_le _⟩) (fun H locs h => ?_)
  refine lv_aload_n hx hb d_Qu_goes_6 rfl (lv_at hl 0 rfl) ?_
  refine lv_iload_n hx hb d_Qu_goes_7 rfl (lv_at hl 1 rfl) ?_
  refine lv_iconst (v := 3) hx hb d_Qu_goes_8 (by decide) ?_
  refine lv_imul hx hb d_Qu_goes_9 ?_
  refine lv_aload_n hx hb d_Qu_goes_10 rfl (lv_at hl 2 rfl) ?_
  obtain ⟨h13, hf⟩ := op_if hf
  obtain ⟨⟨x8, F9, G10, P11, N12⟩, hc7, hf⟩ := op_bind hf
  try dsimp only at hf
  obtain ⟨cC, hat⟩ := w_classAt hK ((cpS hpS h).1 v0 h13).1
  refine kxr_i h hA (va_runSU (C := wNm (eC E v0)) (b := v0) (As := [.int (v1 * 3), .ref (ad 5)]) (rest := []) hat ⟨hx, hb, hml, hown, hT⟩ (c_Wa_goes l n E v0 (v1 * 3) F3 G4 P5 N6 _ hc7 dC dI ad cI cZ cW cJ adK adV _) (va_cwSU 2 hT (goodS ml_Qu_17 w4_84 su_Qu_Wa im_Wa_goes ini_Wa cd_Wa_goes) rfl rfl rfl (by decide +kernel) ⟨Nat.le_of_ble_eq_true rfl, Nat.le_of_ble_eq_true rfl⟩) ⟨fun a U g mk q => ⟨q.1, cPre_bl a U g mk q.2⟩, wrc hK ((cpS hpS h).1 v0 h13).1 ((cpS hpS h).1 v0 h13).2.1, fun U hU hW => ⟨rfl, cPre_to C h hA U hU hW⟩⟩ rfl rfl hl.1 rfl (lv_room (Nat.le_of_ble_eq_true rfl)) d_Qu_goes_11 ⟨Nat.zero_le _, Nat.zero_le _⟩) (fun H locs h => ?_)
  exact rt_ci C h hr hlk hf rfl d_Qu_goes_14
theorem hd_Ca_goes : y_Ca_goes.cls ≠ "java/lang/invoke/MethodHandle" ∧ y_Ca_goes.cls ≠ "java/lang/invoke/VarHandle" ∧ (parseMethodDescriptor y_Ca_goes.desc).map (fun d => d.parameters.length) = some 2 := by decide +kernel
theorem hds_Ca_goes : y_Ca_goes.name ≠ "<init>" ∧ (parseMethodDescriptor y_Ca_goes.desc).map (fun d => d.parameters.length) = some 2 := by decide +kernel
theorem d_Ca_goes_0 : decode b_Ca_goes 0 = .ok (.bipush 51, 2) := by decide +kernel
theorem d_Ca_goes_2 : decode b_Ca_goes 2 = .ok (.aload_n 2, 1) := by decide +kernel
theorem d_Ca_goes_3 : decode b_Ca_goes 3 = .ok (.invokestatic 11, 3) := by decide +kernel
theorem d_Ca_goes_6 : decode b_Ca_goes 6 = .ok (.aload_n 0, 1) := by decide +kernel
theorem d_Ca_goes_7 : decode b_Ca_goes 7 = .ok (.iload_n 1, 1) := by decide +kernel
theorem d_Ca_goes_8 : decode b_Ca_goes 8 = .ok (.aload_n 2, 1) := by decide +kernel
theorem d_Ca_goes_9 : decode b_Ca_goes 9 = .ok (.invokespecial 17, 3) := by decide +kernel
theorem d_Ca_goes_12 : decode b_Ca_goes 12 = .ok (.aload_n 0, 1) := by decide +kernel
theorem d_Ca_goes_13 : decode b_Ca_goes 13 = .ok (.getfield 21, 3) := by decide +kernel
theorem d_Ca_goes_16 : decode b_Ca_goes 16 = .ok (.ixor, 1) := by decide +kernel
theorem d_Ca_goes_17 : decode b_Ca_goes 17 = .ok (.ireturn, 1) := by decide +kernel
def p_Ca_goes (n : Nat) (E : PE) (v0 : Nat) (v1 : Int32) (F : Nat → Nat → Int32) (G : Nat → Nat → Int32) (P : Nat → Nat → Option Nat) (N : Nat → Nat) : Option (Int32 × CU) := (p_Wa_begin n E 51 F G P N).bind fun (F3, G4, P5, N6) => if eV E v0 = true then (p_Wa_goes n E v0 v1 F3 G4 P5 N6).bind fun (x8, F9, G10, P11, N12) => some ((x8 ^^^ (eD E v0 1)), F9, G10, P11, N12) else none
set_option maxHeartbeats 4000000 in
theorem c_Ca_goes (l : Launch) (n : Nat) (E : PE) (v0 : Nat) (v1 : Int32) (F : Nat → Nat → Int32) (G : Nat → Nat → Int32) (P : Nat → Nat → Option Nat) (N : Nat → Nat)  : CMi l y_Ca_goes b_Ca_goes 3 .int (rL 7) E (fun ad => [.ref v0, .int v1, .ref (ad 5)]) F G P N (p_Ca_goes n E v0 v1 F G P N) := by
  refine en_ci (by decide) (fun _ => Nat.le_of_ble_eq_true rfl) ?_
  intro z hf p e s m args below meth c dC dI ad cI cZ cW cJ A adK adV ls C hA h hr hlk hl
  have hl : lv_has ls 3 [(0, .ref v0), (1, .int v1), (2, .ref (ad 5))] := hl
  unfold p_Ca_goes at hf
  obtain ⟨hx, hb, hml, hown, hT, hK, hTS, hTR, hpS, hi⟩ := id C
  refine lv_bipush (v := 51) hx hb d_Ca_goes_0 (by decide) ?_
  refine lv_aload_n hx hb d_Ca_goes_2 rfl (lv_at hl 2 rfl) ?_
  obtain ⟨⟨F3, G4, P5, N6⟩, hc1, hf⟩ := op_bind hf
  try dsimp only at hf
  refine kxr_v h hA (runSx (x := ⟨"LanternBridge$Carried", "begin", "(I[I)V"⟩) (As := [.int 51, .ref (ad 5)]) (rest := []) ⟨hx, hb, hml, hown, hT⟩ (c_Wa_begin l n E 51 F G P N _ hc1 dC dI ad cI cZ cW cJ adK adV _) rfl rfl (rL_ok (d := 5) (d' := 7) (k := 3) (by decide) (by decide)) (pay_in hT (goodW cd_Wa_begin)) List.mem_cons_self (hT _ ini_Wa) (hT _ cd_Wa_begin) (hT _ ml_Ca_11) (hT _ w4_89) rfl rfl (hT _ sm_Wa_begin) hd_Wa_begin ⟨fun a U g mk q => ⟨q.1, cPre_bl a U g mk q.2⟩, fun U hU hW => ⟨rfl, cPre_to C h hA U hU hW⟩⟩ rfl rfl hl.1 rfl (lv_room (Nat.le_of_ble_eq_true rfl)) d_Ca_goes_3 ⟨Nat.zero_le _, Nat.zero_le _⟩) (fun H locs h => ?_)
  refine lv_aload_n hx hb d_Ca_goes_6 rfl (lv_at hl 0 rfl) ?_
  refine lv_iload_n hx hb d_Ca_goes_7 rfl (lv_at hl 1 rfl) ?_
  refine lv_aload_n hx hb d_Ca_goes_8 rfl (lv_at hl 2 rfl) ?_
  obtain ⟨h13, hf⟩ := op_if hf
  obtain ⟨⟨x8, F9, G10, P11, N12⟩, hc7, hf⟩ := op_bind hf
  try dsimp only at hf
  obtain ⟨cC, hat⟩ := w_classAt hK ((cpS hpS h).1 v0 h13).1
  refine kxr_i h hA (runSUx (n := 2) (C := wNm (eC E v0)) (b := v0) (x := ⟨"LanternBridge$Lame", "goes", "(I[I)I"⟩) (As := [.int v1, .ref (ad 5)]) (rest := []) hat ⟨hx, hb, hml, hown, hT⟩ (c_Wa_goes l n E v0 v1 F3 G4 P5 N6 _ hc7 dC dI ad cI cZ cW cJ adK adV _) rfl rfl (rL_ok (d := 6) (d' := 7) (k := 3) (by decide) (by decide)) (pay_in hT (goodW cd_Wa_goes)) List.mem_cons_self (hT _ ini_Wa) (hT _ cd_Wa_goes) (hT _ ml_Ca_17) (hT _ w4_93) rfl rfl (hT _ im_Wa_goes) (hT _ su_Ca_La) (sub_up (hT _ su_La_Wa)) hds_Wa_goes ⟨fun a U g mk q => ⟨q.1, cPre_bl a U g mk q.2⟩, wrc hK ((cpS hpS h).1 v0 h13).1 ((cpS hpS h).1 v0 h13).2.1, fun U hU hW => ⟨rfl, cPre_to C h hA U hU hW⟩⟩ rfl rfl hl.1 rfl (lv_room (Nat.le_of_ble_eq_true rfl)) d_Ca_goes_9 ⟨Nat.zero_le _, Nat.zero_le _⟩) (fun H locs h => ?_)
  refine lv_aload_n hx hb d_Ca_goes_12 rfl (lv_at hl 0 rfl) ?_
  refine wg_1 hx hb hT hown hK ((cpS hpS h).1 v0 h13).1 ((cpS hpS h).1 v0 h13).2.1 fl_Ca_21 (u_same (hT _ w2_189)) d_Ca_goes_13 ?_
  refine lv_ixor hx hb d_Ca_goes_16 ?_
  exact rt_ci C h hr hlk hf rfl d_Ca_goes_17
def pd_goes (n : Nat) (E : PE) (a0 : Nat) (v : Int32) (F G : Nat → Nat → Int32) (P : Nat → Nat → Option Nat) (N : Nat → Nat) : Option (Int32 × CU) := if eC E a0 = 0 then p_Ca_goes n E a0 v F G P N else if eC E a0 = 2 then p_Wa_goes n E a0 v F G P N else if eC E a0 = 3 then p_Qu_goes n E a0 v F G P N else if eC E a0 = 5 then p_Qu_goes n E a0 v F G P N else if eC E a0 = 8 then p_Wa_goes n E a0 v F G P N else if eC E a0 = 9 then p_Wa_goes n E a0 v F G P N else p_Wa_goes n E a0 v F G P N
set_option maxHeartbeats 4000000 in
theorem kv_goes {p : Program} {l : Launch} {e : Env} {Rm : Room} {s : State} {m : MethodId} {args : Array Value} {below : List Frame} {meth : Method} {c : Code} {H : Heap} {locs : List Loc} {cells slots : Nat} {Q : State → Prop} {cc : ByteArray} {nL pc ix a0 : Nat} {ls : Array Slot} {rest : List Value} {dC : Nat → ClassId} {dI : Nat → Nat → Nat} {ad : Nat → Nat} {cI cZ cW cJ : ClassId} {F G F' G' : Nat → Nat → Int32} {P P' : Nat → Nat → Option Nat} {N N' : Nat → Nat} {A : Nat → Prop} {adK adV : Nat → Nat} {E : PE} {own : String} {r v : Int32} (n : Nat) (C : cC p s m args c cc nL own dC dI cI cZ cW cJ A adK adV E) (h : cH A s.heap dC dI ad cI cZ cW cJ F G P N H locs) (hA : ∀ q, s.heap.size ≤ q → A q) (hV : eV E a0 = true) (hf : pd_goes n E a0 v F G P N = some (r, F', G', P', N')) (ml : Cond.methodLink own ix y_Wa_goes ∈ WT) (hR : 12 ≤ Rm.frames ∧ 480 ≤ Rm.locals) (hsz : ls.size = nL) (hW : (rest.map fun v => v.category).sum ≤ 8) (hdg : decode cc pc = .ok (.invokevirtual ix, 3)) (hcs : cells ≤ Rm.cells ∧ slots ≤ Rm.slots)
    (kk : ∀ (H1 : Heap) (locs1 : List Loc), cH A s.heap dC dI ad cI cZ cW cJ F' G' P' N' H1 locs1 → W p l e Rm s m args below meth c H1 locs1 cells slots Q (F0 m (pc + 3) ls (.int r :: rest))) : W p l e Rm s m args below meth c H locs cells slots Q (F0 m pc ls (.ref (ad 5) :: .int v :: .ref a0 :: rest)) := by
  obtain ⟨hx, hb, hml, hown, hT, hK, hTS, hTR, hpS, hi⟩ := id C
  have hci := ((cpS hpS h).1 a0 hV).1
  have hrc := wrc hK hci ((cpS hpS h).1 a0 hV).2.1
  have he := hci
  simp only [wcl, List.mem_cons, List.not_mem_nil, or_false] at he
  rcases he with he | he | he | he | he | he | he
  · rw [pd_goes, if_pos he] at hf
    rw [he] at hrc
    exact kxr_i h hA (va_runU (C := wNm 0) (owner := "LanternBridge$Walker") (x := y_Wa_goes) (b := a0) (As := [.int v, .ref (ad 5)]) (rest := rest) ⟨hx, hb, hml, hown, hT⟩ (c_Ca_goes l n E a0 v F G P N _ hf dC dI ad cI cZ cW cJ adK adV _) (va_cwO 2 hT (goodO ml w4_84 im_Wa_goes se_Ca_Wa_goes__Ca_goes im_Ca_goes ini_Ca cd_Ca_goes) rfl rfl rfl cd_Wa_goes (by decide +kernel) ⟨by show 7 + 1 ≤ _; omega, by show 8 + (3 + 11) + 40 * 7 ≤ _; omega⟩) ⟨fun a U g mk q => ⟨q.1, cPre_bl a U g mk q.2⟩, hrc, fun U hU hW => ⟨rfl, cPre_to C h hA U hU hW⟩⟩ rfl rfl hsz rfl (lv_room hW) hdg hcs) kk
  · rw [pd_goes, if_neg (by rw [he]; decide), if_pos he] at hf
    rw [he] at hrc
    exact kxr_i h hA (va_runU (C := wNm 2) (owner := "LanternBridge$Walker") (x := y_Wa_goes) (b := a0) (As := [.int v, .ref (ad 5)]) (rest := rest) ⟨hx, hb, hml, hown, hT⟩ (c_Wa_goes l n E a0 v F G P N _ hf dC dI ad cI cZ cW cJ adK adV _) (va_cwO 2 hT (goodO ml w4_84 im_Wa_goes se_La_Wa_goes__Wa_goes im_Wa_goes ini_Wa cd_Wa_goes) rfl rfl rfl cd_Wa_goes (by decide +kernel) ⟨by show 6 + 1 ≤ _; omega, by show 8 + (3 + 11) + 40 * 6 ≤ _; omega⟩) ⟨fun a U g mk q => ⟨q.1, cPre_bl a U g mk q.2⟩, hrc, fun U hU hW => ⟨rfl, cPre_to C h hA U hU hW⟩⟩ rfl rfl hsz rfl (lv_room hW) hdg hcs) kk
  · rw [pd_goes, if_neg (by rw [he]; decide), if_neg (by rw [he]; decide), if_pos he] at hf
    rw [he] at hrc
    exact kxr_i h hA (va_runU (C := wNm 3) (owner := "LanternBridge$Walker") (x := y_Wa_goes) (b := a0) (As := [.int v, .ref (ad 5)]) (rest := rest) ⟨hx, hb, hml, hown, hT⟩ (c_Qu_goes l n E a0 v F G P N _ hf dC dI ad cI cZ cW cJ adK adV _) (va_cwO 2 hT (goodO ml w4_84 im_Wa_goes se_Le_Wa_goes__Qu_goes im_Qu_goes ini_Qu cd_Qu_goes) rfl rfl rfl cd_Wa_goes (by decide +kernel) ⟨by show 7 + 1 ≤ _; omega, by show 8 + (3 + 11) + 40 * 7 ≤ _; omega⟩) ⟨fun a U g mk q => ⟨q.1, cPre_bl a U g mk q.2⟩, hrc, fun U hU hW => ⟨rfl, cPre_to C h hA U hU hW⟩⟩ rfl rfl hsz rfl (lv_room hW) hdg hcs) kk
  · rw [pd_goes, if_neg (by rw [he]; decide), if_neg (by rw [he]; decide), if_neg (by rw [he]; decide), if_pos he] at hf
    rw [he] at hrc
    exact kxr_i h hA (va_runU (C := wNm 5) (owner := "LanternBridge$Walker") (x := y_Wa_goes) (b := a0) (As := [.int v, .ref (ad 5)]) (rest := rest) ⟨hx, hb, hml, hown, hT⟩ (c_Qu_goes l n E a0 v F G P N _ hf dC dI ad cI cZ cW cJ adK adV _) (va_cwO 2 hT (goodO ml w4_84 im_Wa_goes se_Qu_Wa_goes__Qu_goes im_Qu_goes ini_Qu cd_Qu_goes) rfl rfl rfl cd_Wa_goes (by decide +kernel) ⟨by show 7 + 1 ≤ _; omega, by show 8 + (3 + 11) + 40 * 7 ≤ _; omega⟩) ⟨fun a U g mk q => ⟨q.1, cPre_bl a U g mk q.2⟩, hrc, fun U hU hW => ⟨rfl, cPre_to C h hA U hU hW⟩⟩ rfl rfl hsz rfl (lv_room hW) hdg hcs) kk
  · rw [pd_goes, if_neg (by rw [he]; decide), if_neg (by rw [he]; decide), if_neg (by rw [he]; decide), if_neg (by rw [he]; decide), if_pos he] at hf
    rw [he] at hrc
    exact kxr_i h hA (va_runU (C := wNm 8) (owner := "LanternBridge$Walker") (x := y_Wa_goes) (b := a0) (As := [.int v, .ref (ad 5)]) (rest := rest) ⟨hx, hb, hml, hown, hT⟩ (c_Wa_goes l n E a0 v F G P N _ hf dC dI ad cI cZ cW cJ adK adV _) (va_cwO 2 hT (goodO ml w4_84 im_Wa_goes se_Ti_Wa_goes__Wa_goes im_Wa_goes ini_Wa cd_Wa_goes) rfl rfl rfl cd_Wa_goes (by decide +kernel) ⟨by show 6 + 1 ≤ _; omega, by show 8 + (3 + 11) + 40 * 6 ≤ _; omega⟩) ⟨fun a U g mk q => ⟨q.1, cPre_bl a U g mk q.2⟩, hrc, fun U hU hW => ⟨rfl, cPre_to C h hA U hU hW⟩⟩ rfl rfl hsz rfl (lv_room hW) hdg hcs) kk
  · rw [pd_goes, if_neg (by rw [he]; decide), if_neg (by rw [he]; decide), if_neg (by rw [he]; decide), if_neg (by rw [he]; decide), if_neg (by rw [he]; decide), if_pos he] at hf
    rw [he] at hrc
    exact kxr_i h hA (va_runU (C := wNm 9) (owner := "LanternBridge$Walker") (x := y_Wa_goes) (b := a0) (As := [.int v, .ref (ad 5)]) (rest := rest) ⟨hx, hb, hml, hown, hT⟩ (c_Wa_goes l n E a0 v F G P N _ hf dC dI ad cI cZ cW cJ adK adV _) (va_cwO 2 hT (goodO ml w4_84 im_Wa_goes se_Tr_Wa_goes__Wa_goes im_Wa_goes ini_Wa cd_Wa_goes) rfl rfl rfl cd_Wa_goes (by decide +kernel) ⟨by show 6 + 1 ≤ _; omega, by show 8 + (3 + 11) + 40 * 6 ≤ _; omega⟩) ⟨fun a U g mk q => ⟨q.1, cPre_bl a U g mk q.2⟩, hrc, fun U hU hW => ⟨rfl, cPre_to C h hA U hU hW⟩⟩ rfl rfl hsz rfl (lv_room hW) hdg hcs) kk
  · rw [pd_goes, if_neg (by rw [he]; decide), if_neg (by rw [he]; decide), if_neg (by rw [he]; decide), if_neg (by rw [he]; decide), if_neg (by rw [he]; decide), if_neg (by rw [he]; decide)] at hf
    rw [he] at hrc
    exact kxr_i h hA (va_runU (C := wNm 10) (owner := "LanternBridge$Walker") (x := y_Wa_goes) (b := a0) (As := [.int v, .ref (ad 5)]) (rest := rest) ⟨hx, hb, hml, hown, hT⟩ (c_Wa_goes l n E a0 v F G P N _ hf dC dI ad cI cZ cW cJ adK adV _) (va_cwO 2 hT (goodO ml w4_84 im_Wa_goes se_Wa_Wa_goes__Wa_goes im_Wa_goes ini_Wa cd_Wa_goes) rfl rfl rfl cd_Wa_goes (by decide +kernel) ⟨by show 6 + 1 ≤ _; omega, by show 8 + (3 + 11) + 40 * 6 ≤ _; omega⟩) ⟨fun a U g mk q => ⟨q.1, cPre_bl a U g mk q.2⟩, hrc, fun U hU hW => ⟨rfl, cPre_to C h hA U hU hW⟩⟩ rfl rfl hsz rfl (lv_room hW) hdg hcs) kk
theorem hd_Wa_waits : y_Wa_waits.cls ≠ "java/lang/invoke/MethodHandle" ∧ y_Wa_waits.cls ≠ "java/lang/invoke/VarHandle" ∧ (parseMethodDescriptor y_Wa_waits.desc).map (fun d => d.parameters.length) = some 2 := by decide +kernel
theorem hds_Wa_waits : y_Wa_waits.name ≠ "<init>" ∧ (parseMethodDescriptor y_Wa_waits.desc).map (fun d => d.parameters.length) = some 2 := by decide +kernel
theorem d_Wa_waits_0 : decode b_Wa_waits 0 = .ok (.iconst 2, 1) := by decide +kernel
theorem d_Wa_waits_1 : decode b_Wa_waits 1 = .ok (.aload_n 2, 1) := by decide +kernel
theorem d_Wa_waits_2 : decode b_Wa_waits 2 = .ok (.invokestatic 46, 3) := by decide +kernel
theorem d_Wa_waits_5 : decode b_Wa_waits 5 = .ok (.aload_n 0, 1) := by decide +kernel
theorem d_Wa_waits_6 : decode b_Wa_waits 6 = .ok (.iload_n 1, 1) := by decide +kernel
theorem d_Wa_waits_7 : decode b_Wa_waits 7 = .ok (.aload_n 2, 1) := by decide +kernel
theorem d_Wa_waits_8 : decode b_Wa_waits 8 = .ok (.invokevirtual 50, 3) := by decide +kernel
theorem d_Wa_waits_11 : decode b_Wa_waits 11 = .ok (.aload_n 0, 1) := by decide +kernel
theorem d_Wa_waits_12 : decode b_Wa_waits 12 = .ok (.getfield 16, 3) := by decide +kernel
theorem d_Wa_waits_15 : decode b_Wa_waits 15 = .ok (.isub, 1) := by decide +kernel
theorem d_Wa_waits_16 : decode b_Wa_waits 16 = .ok (.ireturn, 1) := by decide +kernel
def p_Wa_waits (n : Nat) (E : PE) (v0 : Nat) (v1 : Int32) (F : Nat → Nat → Int32) (G : Nat → Nat → Int32) (P : Nat → Nat → Option Nat) (N : Nat → Nat) : Option (Int32 × CU) := (p_Wa_begin n E 2 F G P N).bind fun (F3, G4, P5, N6) => if eV E v0 = true then (pd_goes n E v0 v1 F3 G4 P5 N6).bind fun (x8, F14, G15, P16, N17) => some ((x8 - (eD E v0 2)), F14, G15, P16, N17) else none
set_option maxHeartbeats 4000000 in
theorem c_Wa_waits (l : Launch) (n : Nat) (E : PE) (v0 : Nat) (v1 : Int32) (F : Nat → Nat → Int32) (G : Nat → Nat → Int32) (P : Nat → Nat → Option Nat) (N : Nat → Nat)  : CMi l y_Wa_waits b_Wa_waits 3 .int (rL 12) E (fun ad => [.ref v0, .int v1, .ref (ad 5)]) F G P N (p_Wa_waits n E v0 v1 F G P N) := by
  refine en_ci (by decide) (fun _ => Nat.le_of_ble_eq_true rfl) ?_
  intro z hf p e s m args below meth c dC dI ad cI cZ cW cJ A adK adV ls C hA h hr hlk hl
  have hl : lv_has ls 3 [(0, .ref v0), (1, .int v1), (2, .ref (ad 5))] := hl
  unfold p_Wa_waits at hf
  obtain ⟨hx, hb, hml, hown, hT, hK, hTS, hTR, hpS, hi⟩ := id C
  refine lv_iconst (v := 2) hx hb d_Wa_waits_0 (by decide) ?_
  refine lv_aload_n hx hb d_Wa_waits_1 rfl (lv_at hl 2 rfl) ?_
  obtain ⟨⟨F3, G4, P5, N6⟩, hc1, hf⟩ := op_bind hf
  try dsimp only at hf
  refine kxr_v h hA (va_runS (As := [.int 2, .ref (ad 5)]) (rest := []) ⟨hx, hb, hml, hown, hT⟩ (c_Wa_begin l n E 2 F G P N _ hc1 dC dI ad cI cZ cW cJ adK adV _) ⟨(cbW 2 hT cd_Wa_begin rfl rfl ini_Wa ml_Wa_46 hd_Wa_begin ⟨Nat.le_of_ble_eq_true rfl, Nat.le_of_ble_eq_true rfl⟩), hT _ sm_Wa_begin⟩ ⟨fun a U g mk q => ⟨q.1, cPre_bl a U g mk q.2⟩, fun U hU hW => ⟨rfl, cPre_to C h hA U hU hW⟩⟩ rfl rfl hl.1 rfl (lv_room (Nat.le_of_ble_eq_true rfl)) d_Wa_waits_2 ⟨Nat.zero_le _, Nat.zero_le _⟩) (fun H locs h => ?_)
  refine lv_aload_n hx hb d_Wa_waits_5 rfl (lv_at hl 0 rfl) ?_
  refine lv_iload_n hx hb d_Wa_waits_6 rfl (lv_at hl 1 rfl) ?_
  refine lv_aload_n hx hb d_Wa_waits_7 rfl (lv_at hl 2 rfl) ?_
  obtain ⟨h13, hf⟩ := op_if hf
  obtain ⟨⟨x8, F14, G15, P16, N17⟩, hc7, hf⟩ := op_bind hf
  try dsimp only at hf
  refine kv_goes (rest := []) n C h hA h13 hc7 ml_Wa_50 ⟨Nat.le_of_ble_eq_true rfl, Nat.le_of_ble_eq_true rfl⟩ hl.1 (Nat.le_of_ble_eq_true rfl) d_Wa_waits_8 ⟨Nat.zero_le _, Nat.zero_le _⟩ (fun H locs h => ?_)
  refine lv_aload_n hx hb d_Wa_waits_11 rfl (lv_at hl 0 rfl) ?_
  refine wg_2 hx hb hT hown hK ((cpS hpS h).1 v0 h13).1 ((cpS hpS h).1 v0 h13).2.1 fl_Wa_16 (fun _ h9 => h9) d_Wa_waits_12 ?_
  refine lv_isub hx hb d_Wa_waits_15 ?_
  exact rt_ci C h hr hlk hf rfl d_Wa_waits_16
theorem hd_La_waits : y_La_waits.cls ≠ "java/lang/invoke/MethodHandle" ∧ y_La_waits.cls ≠ "java/lang/invoke/VarHandle" ∧ (parseMethodDescriptor y_La_waits.desc).map (fun d => d.parameters.length) = some 2 := by decide +kernel
theorem hds_La_waits : y_La_waits.name ≠ "<init>" ∧ (parseMethodDescriptor y_La_waits.desc).map (fun d => d.parameters.length) = some 2 := by decide +kernel
theorem d_La_waits_0 : decode b_La_waits 0 = .ok (.bipush 21, 2) := by decide +kernel
theorem d_La_waits_2 : decode b_La_waits 2 = .ok (.aload_n 2, 1) := by decide +kernel
theorem d_La_waits_3 : decode b_La_waits 3 = .ok (.invokestatic 13, 3) := by decide +kernel
theorem d_La_waits_6 : decode b_La_waits 6 = .ok (.aload_n 0, 1) := by decide +kernel
theorem d_La_waits_7 : decode b_La_waits 7 = .ok (.iload_n 1, 1) := by decide +kernel
theorem d_La_waits_8 : decode b_La_waits 8 = .ok (.aload_n 2, 1) := by decide +kernel
theorem d_La_waits_9 : decode b_La_waits 9 = .ok (.invokespecial 17, 3) := by decide +kernel
theorem d_La_waits_12 : decode b_La_waits 12 = .ok (.ineg, 1) := by decide +kernel
theorem d_La_waits_13 : decode b_La_waits 13 = .ok (.ireturn, 1) := by decide +kernel
def p_La_waits (n : Nat) (E : PE) (v0 : Nat) (v1 : Int32) (F : Nat → Nat → Int32) (G : Nat → Nat → Int32) (P : Nat → Nat → Option Nat) (N : Nat → Nat) : Option (Int32 × CU) := (p_Wa_begin n E 21 F G P N).bind fun (F3, G4, P5, N6) => if eV E v0 = true then (p_Wa_waits n E v0 v1 F3 G4 P5 N6).bind fun (x8, F9, G10, P11, N12) => some ((-x8), F9, G10, P11, N12) else none
set_option maxHeartbeats 4000000 in
theorem c_La_waits (l : Launch) (n : Nat) (E : PE) (v0 : Nat) (v1 : Int32) (F : Nat → Nat → Int32) (G : Nat → Nat → Int32) (P : Nat → Nat → Option Nat) (N : Nat → Nat)  : CMi l y_La_waits b_La_waits 3 .int (rL 13) E (fun ad => [.ref v0, .int v1, .ref (ad 5)]) F G P N (p_La_waits n E v0 v1 F G P N) := by
  refine en_ci (by decide) (fun _ => Nat.le_of_ble_eq_true rfl) ?_
  intro z hf p e s m args below meth c dC dI ad cI cZ cW cJ A adK adV ls C hA h hr hlk hl
  have hl : lv_has ls 3 [(0, .ref v0), (1, .int v1), (2, .ref (ad 5))] := hl
  unfold p_La_waits at hf
  obtain ⟨hx, hb, hml, hown, hT, hK, hTS, hTR, hpS, hi⟩ := id C
  refine lv_bipush (v := 21) hx hb d_La_waits_0 (by decide) ?_
  refine lv_aload_n hx hb d_La_waits_2 rfl (lv_at hl 2 rfl) ?_
  obtain ⟨⟨F3, G4, P5, N6⟩, hc1, hf⟩ := op_bind hf
  try dsimp only at hf
  refine kxr_v h hA (runSx (x := ⟨"LanternBridge$Lame", "begin", "(I[I)V"⟩) (As := [.int 21, .ref (ad 5)]) (rest := []) ⟨hx, hb, hml, hown, hT⟩ (c_Wa_begin l n E 21 F G P N _ hc1 dC dI ad cI cZ cW cJ adK adV _) rfl rfl (rL_ok (d := 5) (d' := 13) (k := 3) (by decide) (by decide)) (pay_in hT (goodW cd_Wa_begin)) List.mem_cons_self (hT _ ini_Wa) (hT _ cd_Wa_begin) (hT _ ml_La_13) (hT _ w4_115) rfl rfl (hT _ sm_Wa_begin) hd_Wa_begin ⟨fun a U g mk q => ⟨q.1, cPre_bl a U g mk q.2⟩, fun U hU hW => ⟨rfl, cPre_to C h hA U hU hW⟩⟩ rfl rfl hl.1 rfl (lv_room (Nat.le_of_ble_eq_true rfl)) d_La_waits_3 ⟨Nat.zero_le _, Nat.zero_le _⟩) (fun H locs h => ?_)
  refine lv_aload_n hx hb d_La_waits_6 rfl (lv_at hl 0 rfl) ?_
  refine lv_iload_n hx hb d_La_waits_7 rfl (lv_at hl 1 rfl) ?_
  refine lv_aload_n hx hb d_La_waits_8 rfl (lv_at hl 2 rfl) ?_
  obtain ⟨h13, hf⟩ := op_if hf
  obtain ⟨⟨x8, F9, G10, P11, N12⟩, hc7, hf⟩ := op_bind hf
  try dsimp only at hf
  obtain ⟨cC, hat⟩ := w_classAt hK ((cpS hpS h).1 v0 h13).1
  refine kxr_i h hA (va_runSU (C := wNm (eC E v0)) (b := v0) (As := [.int v1, .ref (ad 5)]) (rest := []) hat ⟨hx, hb, hml, hown, hT⟩ (c_Wa_waits l n E v0 v1 F3 G4 P5 N6 _ hc7 dC dI ad cI cZ cW cJ adK adV _) (va_cwSU 2 hT (goodS ml_La_17 w4_110 su_La_Wa im_Wa_waits ini_Wa cd_Wa_waits) rfl rfl rfl (by decide +kernel) ⟨Nat.le_of_ble_eq_true rfl, Nat.le_of_ble_eq_true rfl⟩) ⟨fun a U g mk q => ⟨q.1, cPre_bl a U g mk q.2⟩, wrc hK ((cpS hpS h).1 v0 h13).1 ((cpS hpS h).1 v0 h13).2.1, fun U hU hW => ⟨rfl, cPre_to C h hA U hU hW⟩⟩ rfl rfl hl.1 rfl (lv_room (Nat.le_of_ble_eq_true rfl)) d_La_waits_9 ⟨Nat.zero_le _, Nat.zero_le _⟩) (fun H locs h => ?_)
  refine lv_ineg hx hb d_La_waits_12 ?_
  exact rt_ci C h hr hlk hf rfl d_La_waits_13
theorem hd_Tr_waits : y_Tr_waits.cls ≠ "java/lang/invoke/MethodHandle" ∧ y_Tr_waits.cls ≠ "java/lang/invoke/VarHandle" ∧ (parseMethodDescriptor y_Tr_waits.desc).map (fun d => d.parameters.length) = some 2 := by decide +kernel
theorem hds_Tr_waits : y_Tr_waits.name ≠ "<init>" ∧ (parseMethodDescriptor y_Tr_waits.desc).map (fun d => d.parameters.length) = some 2 := by decide +kernel
theorem d_Tr_waits_0 : decode b_Tr_waits 0 = .ok (.bipush 61, 2) := by decide +kernel
theorem d_Tr_waits_2 : decode b_Tr_waits 2 = .ok (.aload_n 2, 1) := by decide +kernel
theorem d_Tr_waits_3 : decode b_Tr_waits 3 = .ok (.invokestatic 19, 3) := by decide +kernel
theorem d_Tr_waits_6 : decode b_Tr_waits 6 = .ok (.aload_n 0, 1) := by decide +kernel
theorem d_Tr_waits_7 : decode b_Tr_waits 7 = .ok (.iload_n 1, 1) := by decide +kernel
theorem d_Tr_waits_8 : decode b_Tr_waits 8 = .ok (.aload_n 2, 1) := by decide +kernel
theorem d_Tr_waits_9 : decode b_Tr_waits 9 = .ok (.invokespecial 23, 3) := by decide +kernel
theorem d_Tr_waits_12 : decode b_Tr_waits 12 = .ok (.aload_n 0, 1) := by decide +kernel
theorem d_Tr_waits_13 : decode b_Tr_waits 13 = .ok (.getfield 13, 3) := by decide +kernel
theorem d_Tr_waits_16 : decode b_Tr_waits 16 = .ok (.iadd, 1) := by decide +kernel
theorem d_Tr_waits_17 : decode b_Tr_waits 17 = .ok (.ireturn, 1) := by decide +kernel
def p_Tr_waits (n : Nat) (E : PE) (v0 : Nat) (v1 : Int32) (F : Nat → Nat → Int32) (G : Nat → Nat → Int32) (P : Nat → Nat → Option Nat) (N : Nat → Nat) : Option (Int32 × CU) := (p_Wa_begin n E 61 F G P N).bind fun (F3, G4, P5, N6) => if eV E v0 = true then (p_Wa_waits n E v0 v1 F3 G4 P5 N6).bind fun (x8, F9, G10, P11, N12) => some ((x8 + (eD E v0 2)), F9, G10, P11, N12) else none
set_option maxHeartbeats 4000000 in
theorem c_Tr_waits (l : Launch) (n : Nat) (E : PE) (v0 : Nat) (v1 : Int32) (F : Nat → Nat → Int32) (G : Nat → Nat → Int32) (P : Nat → Nat → Option Nat) (N : Nat → Nat)  : CMi l y_Tr_waits b_Tr_waits 3 .int (rL 13) E (fun ad => [.ref v0, .int v1, .ref (ad 5)]) F G P N (p_Tr_waits n E v0 v1 F G P N) := by
  refine en_ci (by decide) (fun _ => Nat.le_of_ble_eq_true rfl) ?_
  intro z hf p e s m args below meth c dC dI ad cI cZ cW cJ A adK adV ls C hA h hr hlk hl
  have hl : lv_has ls 3 [(0, .ref v0), (1, .int v1), (2, .ref (ad 5))] := hl
  unfold p_Tr_waits at hf
  obtain ⟨hx, hb, hml, hown, hT, hK, hTS, hTR, hpS, hi⟩ := id C
  refine lv_bipush (v := 61) hx hb d_Tr_waits_0 (by decide) ?_
  refine lv_aload_n hx hb d_Tr_waits_2 rfl (lv_at hl 2 rfl) ?_
  obtain ⟨⟨F3, G4, P5, N6⟩, hc1, hf⟩ := op_bind hf
  try dsimp only at hf
  refine kxr_v h hA (runSx (x := ⟨"LanternBridge$Tiring", "begin", "(I[I)V"⟩) (As := [.int 61, .ref (ad 5)]) (rest := []) ⟨hx, hb, hml, hown, hT⟩ (c_Wa_begin l n E 61 F G P N _ hc1 dC dI ad cI cZ cW cJ adK adV _) rfl rfl (rL_ok (d := 5) (d' := 13) (k := 3) (by decide) (by decide)) (pay_in hT (goodW cd_Wa_begin)) List.mem_cons_self (hT _ ini_Wa) (hT _ cd_Wa_begin) (hT _ ml_Tr_19) (hT _ w4_125) rfl rfl (hT _ sm_Wa_begin) hd_Wa_begin ⟨fun a U g mk q => ⟨q.1, cPre_bl a U g mk q.2⟩, fun U hU hW => ⟨rfl, cPre_to C h hA U hU hW⟩⟩ rfl rfl hl.1 rfl (lv_room (Nat.le_of_ble_eq_true rfl)) d_Tr_waits_3 ⟨Nat.zero_le _, Nat.zero_le _⟩) (fun H locs h => ?_)
  refine lv_aload_n hx hb d_Tr_waits_6 rfl (lv_at hl 0 rfl) ?_
  refine lv_iload_n hx hb d_Tr_waits_7 rfl (lv_at hl 1 rfl) ?_
  refine lv_aload_n hx hb d_Tr_waits_8 rfl (lv_at hl 2 rfl) ?_
  obtain ⟨h13, hf⟩ := op_if hf
  obtain ⟨⟨x8, F9, G10, P11, N12⟩, hc7, hf⟩ := op_bind hf
  try dsimp only at hf
  obtain ⟨cC, hat⟩ := w_classAt hK ((cpS hpS h).1 v0 h13).1
  refine kxr_i h hA (runSUx (n := 2) (C := wNm (eC E v0)) (b := v0) (x := ⟨"LanternBridge$Tied", "waits", "(I[I)I"⟩) (As := [.int v1, .ref (ad 5)]) (rest := []) hat ⟨hx, hb, hml, hown, hT⟩ (c_Wa_waits l n E v0 v1 F3 G4 P5 N6 _ hc7 dC dI ad cI cZ cW cJ adK adV _) rfl rfl (rL_ok (d := 12) (d' := 13) (k := 3) (by decide) (by decide)) (pay_in hT (goodW cd_Wa_waits)) List.mem_cons_self (hT _ ini_Wa) (hT _ cd_Wa_waits) (hT _ ml_Tr_23) (hT _ w4_127) rfl rfl (hT _ im_Wa_waits) (hT _ su_Tr_Ti) (sub_up (hT _ su_Ti_Wa)) hds_Wa_waits ⟨fun a U g mk q => ⟨q.1, cPre_bl a U g mk q.2⟩, wrc hK ((cpS hpS h).1 v0 h13).1 ((cpS hpS h).1 v0 h13).2.1, fun U hU hW => ⟨rfl, cPre_to C h hA U hU hW⟩⟩ rfl rfl hl.1 rfl (lv_room (Nat.le_of_ble_eq_true rfl)) d_Tr_waits_9 ⟨Nat.zero_le _, Nat.zero_le _⟩) (fun H locs h => ?_)
  refine lv_aload_n hx hb d_Tr_waits_12 rfl (lv_at hl 0 rfl) ?_
  refine wg_2 hx hb hT hown hK ((cpS hpS h).1 v0 h13).1 ((cpS hpS h).1 v0 h13).2.1 fl_Tr_13 (u_same (hT _ w2_197)) d_Tr_waits_13 ?_
  refine lv_iadd hx hb d_Tr_waits_16 ?_
  exact rt_ci C h hr hlk hf rfl d_Tr_waits_17
def pd_waits (n : Nat) (E : PE) (a0 : Nat) (v : Int32) (F G : Nat → Nat → Int32) (P : Nat → Nat → Option Nat) (N : Nat → Nat) : Option (Int32 × CU) := if eC E a0 = 0 then p_La_waits n E a0 v F G P N else if eC E a0 = 2 then p_La_waits n E a0 v F G P N else if eC E a0 = 3 then p_Wa_waits n E a0 v F G P N else if eC E a0 = 5 then p_Wa_waits n E a0 v F G P N else if eC E a0 = 8 then p_Wa_waits n E a0 v F G P N else if eC E a0 = 9 then p_Tr_waits n E a0 v F G P N else p_Wa_waits n E a0 v F G P N
set_option maxHeartbeats 4000000 in
theorem kv_waits {p : Program} {l : Launch} {e : Env} {Rm : Room} {s : State} {m : MethodId} {args : Array Value} {below : List Frame} {meth : Method} {c : Code} {H : Heap} {locs : List Loc} {cells slots : Nat} {Q : State → Prop} {cc : ByteArray} {nL pc ix a0 : Nat} {ls : Array Slot} {rest : List Value} {dC : Nat → ClassId} {dI : Nat → Nat → Nat} {ad : Nat → Nat} {cI cZ cW cJ : ClassId} {F G F' G' : Nat → Nat → Int32} {P P' : Nat → Nat → Option Nat} {N N' : Nat → Nat} {A : Nat → Prop} {adK adV : Nat → Nat} {E : PE} {own : String} {r v : Int32} (n : Nat) (C : cC p s m args c cc nL own dC dI cI cZ cW cJ A adK adV E) (h : cH A s.heap dC dI ad cI cZ cW cJ F G P N H locs) (hA : ∀ q, s.heap.size ≤ q → A q) (hV : eV E a0 = true) (hf : pd_waits n E a0 v F G P N = some (r, F', G', P', N')) (ml : Cond.methodLink own ix y_Wa_waits ∈ WT) (hR : 16 ≤ Rm.frames ∧ 640 ≤ Rm.locals) (hsz : ls.size = nL) (hW : (rest.map fun v => v.category).sum ≤ 8) (hdg : decode cc pc = .ok (.invokevirtual ix, 3)) (hcs : cells ≤ Rm.cells ∧ slots ≤ Rm.slots)
    (kk : ∀ (H1 : Heap) (locs1 : List Loc), cH A s.heap dC dI ad cI cZ cW cJ F' G' P' N' H1 locs1 → W p l e Rm s m args below meth c H1 locs1 cells slots Q (F0 m (pc + 3) ls (.int r :: rest))) : W p l e Rm s m args below meth c H locs cells slots Q (F0 m pc ls (.ref (ad 5) :: .int v :: .ref a0 :: rest)) := by
  obtain ⟨hx, hb, hml, hown, hT, hK, hTS, hTR, hpS, hi⟩ := id C
  have hci := ((cpS hpS h).1 a0 hV).1
  have hrc := wrc hK hci ((cpS hpS h).1 a0 hV).2.1
  have he := hci
  simp only [wcl, List.mem_cons, List.not_mem_nil, or_false] at he
  rcases he with he | he | he | he | he | he | he
  · rw [pd_waits, if_pos he] at hf
    rw [he] at hrc
    exact kxr_i h hA (va_runU (C := wNm 0) (owner := "LanternBridge$Walker") (x := y_Wa_waits) (b := a0) (As := [.int v, .ref (ad 5)]) (rest := rest) ⟨hx, hb, hml, hown, hT⟩ (c_La_waits l n E a0 v F G P N _ hf dC dI ad cI cZ cW cJ adK adV _) (va_cwO 2 hT (goodO ml w4_110 im_Wa_waits se_Ca_Wa_waits__La_waits im_La_waits ini_La cd_La_waits) rfl rfl rfl cd_Wa_waits (by decide +kernel) ⟨by show 13 + 1 ≤ _; omega, by show 8 + (3 + 11) + 40 * 13 ≤ _; omega⟩) ⟨fun a U g mk q => ⟨q.1, cPre_bl a U g mk q.2⟩, hrc, fun U hU hW => ⟨rfl, cPre_to C h hA U hU hW⟩⟩ rfl rfl hsz rfl (lv_room hW) hdg hcs) kk
  · rw [pd_waits, if_neg (by rw [he]; decide), if_pos he] at hf
    rw [he] at hrc
    exact kxr_i h hA (va_runU (C := wNm 2) (owner := "LanternBridge$Walker") (x := y_Wa_waits) (b := a0) (As := [.int v, .ref (ad 5)]) (rest := rest) ⟨hx, hb, hml, hown, hT⟩ (c_La_waits l n E a0 v F G P N _ hf dC dI ad cI cZ cW cJ adK adV _) (va_cwO 2 hT (goodO ml w4_110 im_Wa_waits se_La_Wa_waits__La_waits im_La_waits ini_La cd_La_waits) rfl rfl rfl cd_Wa_waits (by decide +kernel) ⟨by show 13 + 1 ≤ _; omega, by show 8 + (3 + 11) + 40 * 13 ≤ _; omega⟩) ⟨fun a U g mk q => ⟨q.1, cPre_bl a U g mk q.2⟩, hrc, fun U hU hW => ⟨rfl, cPre_to C h hA U hU hW⟩⟩ rfl rfl hsz rfl (lv_room hW) hdg hcs) kk
  · rw [pd_waits, if_neg (by rw [he]; decide), if_neg (by rw [he]; decide), if_pos he] at hf
    rw [he] at hrc
    exact kxr_i h hA (va_runU (C := wNm 3) (owner := "LanternBridge$Walker") (x := y_Wa_waits) (b := a0) (As := [.int v, .ref (ad 5)]) (rest := rest) ⟨hx, hb, hml, hown, hT⟩ (c_Wa_waits l n E a0 v F G P N _ hf dC dI ad cI cZ cW cJ adK adV _) (va_cwO 2 hT (goodO ml w4_110 im_Wa_waits se_Le_Wa_waits__Wa_waits im_Wa_waits ini_Wa cd_Wa_waits) rfl rfl rfl cd_Wa_waits (by decide +kernel) ⟨by show 12 + 1 ≤ _; omega, by show 8 + (3 + 11) + 40 * 12 ≤ _; omega⟩) ⟨fun a U g mk q => ⟨q.1, cPre_bl a U g mk q.2⟩, hrc, fun U hU hW => ⟨rfl, cPre_to C h hA U hU hW⟩⟩ rfl rfl hsz rfl (lv_room hW) hdg hcs) kk
  · rw [pd_waits, if_neg (by rw [he]; decide), if_neg (by rw [he]; decide), if_neg (by rw [he]; decide), if_pos he] at hf
    rw [he] at hrc
    exact kxr_i h hA (va_runU (C := wNm 5) (owner := "LanternBridge$Walker") (x := y_Wa_waits) (b := a0) (As := [.int v, .ref (ad 5)]) (rest := rest) ⟨hx, hb, hml, hown, hT⟩ (c_Wa_waits l n E a0 v F G P N _ hf dC dI ad cI cZ cW cJ adK adV _) (va_cwO 2 hT (goodO ml w4_110 im_Wa_waits se_Qu_Wa_waits__Wa_waits im_Wa_waits ini_Wa cd_Wa_waits) rfl rfl rfl cd_Wa_waits (by decide +kernel) ⟨by show 12 + 1 ≤ _; omega, by show 8 + (3 + 11) + 40 * 12 ≤ _; omega⟩) ⟨fun a U g mk q => ⟨q.1, cPre_bl a U g mk q.2⟩, hrc, fun U hU hW => ⟨rfl, cPre_to C h hA U hU hW⟩⟩ rfl rfl hsz rfl (lv_room hW) hdg hcs) kk
  · rw [pd_waits, if_neg (by rw [he]; decide), if_neg (by rw [he]; decide), if_neg (by rw [he]; decide), if_neg (by rw [he]; decide), if_pos he] at hf
    rw [he] at hrc
    exact kxr_i h hA (va_runU (C := wNm 8) (owner := "LanternBridge$Walker") (x := y_Wa_waits) (b := a0) (As := [.int v, .ref (ad 5)]) (rest := rest) ⟨hx, hb, hml, hown, hT⟩ (c_Wa_waits l n E a0 v F G P N _ hf dC dI ad cI cZ cW cJ adK adV _) (va_cwO 2 hT (goodO ml w4_110 im_Wa_waits se_Ti_Wa_waits__Wa_waits im_Wa_waits ini_Wa cd_Wa_waits) rfl rfl rfl cd_Wa_waits (by decide +kernel) ⟨by show 12 + 1 ≤ _; omega, by show 8 + (3 + 11) + 40 * 12 ≤ _; omega⟩) ⟨fun a U g mk q => ⟨q.1, cPre_bl a U g mk q.2⟩, hrc, fun U hU hW => ⟨rfl, cPre_to C h hA U hU hW⟩⟩ rfl rfl hsz rfl (lv_room hW) hdg hcs) kk
  · rw [pd_waits, if_neg (by rw [he]; decide), if_neg (by rw [he]; decide), if_neg (by rw [he]; decide), if_neg (by rw [he]; decide), if_neg (by rw [he]; decide), if_pos he] at hf
    rw [he] at hrc
    exact kxr_i h hA (va_runU (C := wNm 9) (owner := "LanternBridge$Walker") (x := y_Wa_waits) (b := a0) (As := [.int v, .ref (ad 5)]) (rest := rest) ⟨hx, hb, hml, hown, hT⟩ (c_Tr_waits l n E a0 v F G P N _ hf dC dI ad cI cZ cW cJ adK adV _) (va_cwO 2 hT (goodO ml w4_110 im_Wa_waits se_Tr_Wa_waits__Tr_waits im_Tr_waits ini_Tr cd_Tr_waits) rfl rfl rfl cd_Wa_waits (by decide +kernel) ⟨by show 13 + 1 ≤ _; omega, by show 8 + (3 + 11) + 40 * 13 ≤ _; omega⟩) ⟨fun a U g mk q => ⟨q.1, cPre_bl a U g mk q.2⟩, hrc, fun U hU hW => ⟨rfl, cPre_to C h hA U hU hW⟩⟩ rfl rfl hsz rfl (lv_room hW) hdg hcs) kk
  · rw [pd_waits, if_neg (by rw [he]; decide), if_neg (by rw [he]; decide), if_neg (by rw [he]; decide), if_neg (by rw [he]; decide), if_neg (by rw [he]; decide), if_neg (by rw [he]; decide)] at hf
    rw [he] at hrc
    exact kxr_i h hA (va_runU (C := wNm 10) (owner := "LanternBridge$Walker") (x := y_Wa_waits) (b := a0) (As := [.int v, .ref (ad 5)]) (rest := rest) ⟨hx, hb, hml, hown, hT⟩ (c_Wa_waits l n E a0 v F G P N _ hf dC dI ad cI cZ cW cJ adK adV _) (va_cwO 2 hT (goodO ml w4_110 im_Wa_waits se_Wa_Wa_waits__Wa_waits im_Wa_waits ini_Wa cd_Wa_waits) rfl rfl rfl cd_Wa_waits (by decide +kernel) ⟨by show 12 + 1 ≤ _; omega, by show 8 + (3 + 11) + 40 * 12 ≤ _; omega⟩) ⟨fun a U g mk q => ⟨q.1, cPre_bl a U g mk q.2⟩, hrc, fun U hU hW => ⟨rfl, cPre_to C h hA U hU hW⟩⟩ rfl rfl hsz rfl (lv_room hW) hdg hcs) kk
theorem hd_Wa_tells : y_Wa_tells.cls ≠ "java/lang/invoke/MethodHandle" ∧ y_Wa_tells.cls ≠ "java/lang/invoke/VarHandle" ∧ (parseMethodDescriptor y_Wa_tells.desc).map (fun d => d.parameters.length) = some 2 := by decide +kernel
theorem hds_Wa_tells : y_Wa_tells.name ≠ "<init>" ∧ (parseMethodDescriptor y_Wa_tells.desc).map (fun d => d.parameters.length) = some 2 := by decide +kernel
theorem d_Wa_tells_0 : decode b_Wa_tells 0 = .ok (.iconst 3, 1) := by decide +kernel
theorem d_Wa_tells_1 : decode b_Wa_tells 1 = .ok (.aload_n 2, 1) := by decide +kernel
theorem d_Wa_tells_2 : decode b_Wa_tells 2 = .ok (.invokestatic 46, 3) := by decide +kernel
theorem d_Wa_tells_5 : decode b_Wa_tells 5 = .ok (.aload_n 0, 1) := by decide +kernel
theorem d_Wa_tells_6 : decode b_Wa_tells 6 = .ok (.iload_n 1, 1) := by decide +kernel
theorem d_Wa_tells_7 : decode b_Wa_tells 7 = .ok (.aload_n 2, 1) := by decide +kernel
theorem d_Wa_tells_8 : decode b_Wa_tells 8 = .ok (.invokevirtual 54, 3) := by decide +kernel
theorem d_Wa_tells_11 : decode b_Wa_tells 11 = .ok (.iconst 2, 1) := by decide +kernel
theorem d_Wa_tells_12 : decode b_Wa_tells 12 = .ok (.imul, 1) := by decide +kernel
theorem d_Wa_tells_13 : decode b_Wa_tells 13 = .ok (.ireturn, 1) := by decide +kernel
def p_Wa_tells (n : Nat) (E : PE) (v0 : Nat) (v1 : Int32) (F : Nat → Nat → Int32) (G : Nat → Nat → Int32) (P : Nat → Nat → Option Nat) (N : Nat → Nat) : Option (Int32 × CU) := (p_Wa_begin n E 3 F G P N).bind fun (F3, G4, P5, N6) => if eV E v0 = true then (pd_waits n E v0 v1 F3 G4 P5 N6).bind fun (x8, F14, G15, P16, N17) => some ((x8 * 2), F14, G15, P16, N17) else none
set_option maxHeartbeats 4000000 in
theorem c_Wa_tells (l : Launch) (n : Nat) (E : PE) (v0 : Nat) (v1 : Int32) (F : Nat → Nat → Int32) (G : Nat → Nat → Int32) (P : Nat → Nat → Option Nat) (N : Nat → Nat)  : CMi l y_Wa_tells b_Wa_tells 3 .int (rL 16) E (fun ad => [.ref v0, .int v1, .ref (ad 5)]) F G P N (p_Wa_tells n E v0 v1 F G P N) := by
  refine en_ci (by decide) (fun _ => Nat.le_of_ble_eq_true rfl) ?_
  intro z hf p e s m args below meth c dC dI ad cI cZ cW cJ A adK adV ls C hA h hr hlk hl
  have hl : lv_has ls 3 [(0, .ref v0), (1, .int v1), (2, .ref (ad 5))] := hl
  unfold p_Wa_tells at hf
  obtain ⟨hx, hb, hml, hown, hT, hK, hTS, hTR, hpS, hi⟩ := id C
  refine lv_iconst (v := 3) hx hb d_Wa_tells_0 (by decide) ?_
  refine lv_aload_n hx hb d_Wa_tells_1 rfl (lv_at hl 2 rfl) ?_
  obtain ⟨⟨F3, G4, P5, N6⟩, hc1, hf⟩ := op_bind hf
  try dsimp only at hf
  refine kxr_v h hA (va_runS (As := [.int 3, .ref (ad 5)]) (rest := []) ⟨hx, hb, hml, hown, hT⟩ (c_Wa_begin l n E 3 F G P N _ hc1 dC dI ad cI cZ cW cJ adK adV _) ⟨(cbW 2 hT cd_Wa_begin rfl rfl ini_Wa ml_Wa_46 hd_Wa_begin ⟨Nat.le_of_ble_eq_true rfl, Nat.le_of_ble_eq_true rfl⟩), hT _ sm_Wa_begin⟩ ⟨fun a U g mk q => ⟨q.1, cPre_bl a U g mk q.2⟩, fun U hU hW => ⟨rfl, cPre_to C h hA U hU hW⟩⟩ rfl rfl hl.1 rfl (lv_room (Nat.le_of_ble_eq_true rfl)) d_Wa_tells_2 ⟨Nat.zero_le _, Nat.zero_le _⟩) (fun H locs h => ?_)
  refine lv_aload_n hx hb d_Wa_tells_5 rfl (lv_at hl 0 rfl) ?_
  refine lv_iload_n hx hb d_Wa_tells_6 rfl (lv_at hl 1 rfl) ?_
  refine lv_aload_n hx hb d_Wa_tells_7 rfl (lv_at hl 2 rfl) ?_
  obtain ⟨h13, hf⟩ := op_if hf
  obtain ⟨⟨x8, F14, G15, P16, N17⟩, hc7, hf⟩ := op_bind hf
  try dsimp only at hf
  refine kv_waits (rest := []) n C h hA h13 hc7 ml_Wa_54 ⟨Nat.le_of_ble_eq_true rfl, Nat.le_of_ble_eq_true rfl⟩ hl.1 (Nat.le_of_ble_eq_true rfl) d_Wa_tells_8 ⟨Nat.zero_le _, Nat.zero_le _⟩ (fun H locs h => ?_)
  refine lv_iconst (v := 2) hx hb d_Wa_tells_11 (by decide) ?_
  refine lv_imul hx hb d_Wa_tells_12 ?_
  exact rt_ci C h hr hlk hf rfl d_Wa_tells_13
theorem hd_Ti_tells : y_Ti_tells.cls ≠ "java/lang/invoke/MethodHandle" ∧ y_Ti_tells.cls ≠ "java/lang/invoke/VarHandle" ∧ (parseMethodDescriptor y_Ti_tells.desc).map (fun d => d.parameters.length) = some 2 := by decide +kernel
theorem hds_Ti_tells : y_Ti_tells.name ≠ "<init>" ∧ (parseMethodDescriptor y_Ti_tells.desc).map (fun d => d.parameters.length) = some 2 := by decide +kernel
theorem d_Ti_tells_0 : decode b_Ti_tells 0 = .ok (.bipush 31, 2) := by decide +kernel
theorem d_Ti_tells_2 : decode b_Ti_tells 2 = .ok (.aload_n 2, 1) := by decide +kernel
theorem d_Ti_tells_3 : decode b_Ti_tells 3 = .ok (.invokestatic 16, 3) := by decide +kernel
theorem d_Ti_tells_6 : decode b_Ti_tells 6 = .ok (.aload_n 0, 1) := by decide +kernel
theorem d_Ti_tells_7 : decode b_Ti_tells 7 = .ok (.iload_n 1, 1) := by decide +kernel
theorem d_Ti_tells_8 : decode b_Ti_tells 8 = .ok (.aload_n 2, 1) := by decide +kernel
theorem d_Ti_tells_9 : decode b_Ti_tells 9 = .ok (.invokespecial 20, 3) := by decide +kernel
theorem d_Ti_tells_12 : decode b_Ti_tells 12 = .ok (.bipush 7, 2) := by decide +kernel
theorem d_Ti_tells_14 : decode b_Ti_tells 14 = .ok (.ixor, 1) := by decide +kernel
theorem d_Ti_tells_15 : decode b_Ti_tells 15 = .ok (.ireturn, 1) := by decide +kernel
def p_Ti_tells (n : Nat) (E : PE) (v0 : Nat) (v1 : Int32) (F : Nat → Nat → Int32) (G : Nat → Nat → Int32) (P : Nat → Nat → Option Nat) (N : Nat → Nat) : Option (Int32 × CU) := (p_Wa_begin n E 31 F G P N).bind fun (F3, G4, P5, N6) => if eV E v0 = true then (p_Wa_tells n E v0 v1 F3 G4 P5 N6).bind fun (x8, F9, G10, P11, N12) => some ((x8 ^^^ 7), F9, G10, P11, N12) else none
set_option maxHeartbeats 4000000 in
theorem c_Ti_tells (l : Launch) (n : Nat) (E : PE) (v0 : Nat) (v1 : Int32) (F : Nat → Nat → Int32) (G : Nat → Nat → Int32) (P : Nat → Nat → Option Nat) (N : Nat → Nat)  : CMi l y_Ti_tells b_Ti_tells 3 .int (rL 17) E (fun ad => [.ref v0, .int v1, .ref (ad 5)]) F G P N (p_Ti_tells n E v0 v1 F G P N) := by
  refine en_ci (by decide) (fun _ => Nat.le_of_ble_eq_true rfl) ?_
  intro z hf p e s m args below meth c dC dI ad cI cZ cW cJ A adK adV ls C hA h hr hlk hl
  have hl : lv_has ls 3 [(0, .ref v0), (1, .int v1), (2, .ref (ad 5))] := hl
  unfold p_Ti_tells at hf
  obtain ⟨hx, hb, hml, hown, hT, hK, hTS, hTR, hpS, hi⟩ := id C
  refine lv_bipush (v := 31) hx hb d_Ti_tells_0 (by decide) ?_
  refine lv_aload_n hx hb d_Ti_tells_2 rfl (lv_at hl 2 rfl) ?_
  obtain ⟨⟨F3, G4, P5, N6⟩, hc1, hf⟩ := op_bind hf
  try dsimp only at hf
  refine kxr_v h hA (runSx (x := ⟨"LanternBridge$Tied", "begin", "(I[I)V"⟩) (As := [.int 31, .ref (ad 5)]) (rest := []) ⟨hx, hb, hml, hown, hT⟩ (c_Wa_begin l n E 31 F G P N _ hc1 dC dI ad cI cZ cW cJ adK adV _) rfl rfl (rL_ok (d := 5) (d' := 17) (k := 3) (by decide) (by decide)) (pay_in hT (goodW cd_Wa_begin)) List.mem_cons_self (hT _ ini_Wa) (hT _ cd_Wa_begin) (hT _ ml_Ti_16) (hT _ w4_154) rfl rfl (hT _ sm_Wa_begin) hd_Wa_begin ⟨fun a U g mk q => ⟨q.1, cPre_bl a U g mk q.2⟩, fun U hU hW => ⟨rfl, cPre_to C h hA U hU hW⟩⟩ rfl rfl hl.1 rfl (lv_room (Nat.le_of_ble_eq_true rfl)) d_Ti_tells_3 ⟨Nat.zero_le _, Nat.zero_le _⟩) (fun H locs h => ?_)
  refine lv_aload_n hx hb d_Ti_tells_6 rfl (lv_at hl 0 rfl) ?_
  refine lv_iload_n hx hb d_Ti_tells_7 rfl (lv_at hl 1 rfl) ?_
  refine lv_aload_n hx hb d_Ti_tells_8 rfl (lv_at hl 2 rfl) ?_
  obtain ⟨h13, hf⟩ := op_if hf
  obtain ⟨⟨x8, F9, G10, P11, N12⟩, hc7, hf⟩ := op_bind hf
  try dsimp only at hf
  obtain ⟨cC, hat⟩ := w_classAt hK ((cpS hpS h).1 v0 h13).1
  refine kxr_i h hA (va_runSU (C := wNm (eC E v0)) (b := v0) (As := [.int v1, .ref (ad 5)]) (rest := []) hat ⟨hx, hb, hml, hown, hT⟩ (c_Wa_tells l n E v0 v1 F3 G4 P5 N6 _ hc7 dC dI ad cI cZ cW cJ adK adV _) (va_cwSU 2 hT (goodS ml_Ti_20 w4_134 su_Ti_Wa im_Wa_tells ini_Wa cd_Wa_tells) rfl rfl rfl (by decide +kernel) ⟨Nat.le_of_ble_eq_true rfl, Nat.le_of_ble_eq_true rfl⟩) ⟨fun a U g mk q => ⟨q.1, cPre_bl a U g mk q.2⟩, wrc hK ((cpS hpS h).1 v0 h13).1 ((cpS hpS h).1 v0 h13).2.1, fun U hU hW => ⟨rfl, cPre_to C h hA U hU hW⟩⟩ rfl rfl hl.1 rfl (lv_room (Nat.le_of_ble_eq_true rfl)) d_Ti_tells_9 ⟨Nat.zero_le _, Nat.zero_le _⟩) (fun H locs h => ?_)
  refine lv_bipush (v := 7) hx hb d_Ti_tells_12 (by decide) ?_
  refine lv_ixor hx hb d_Ti_tells_14 ?_
  exact rt_ci C h hr hlk hf rfl d_Ti_tells_15
theorem hd_Le_tells : y_Le_tells.cls ≠ "java/lang/invoke/MethodHandle" ∧ y_Le_tells.cls ≠ "java/lang/invoke/VarHandle" ∧ (parseMethodDescriptor y_Le_tells.desc).map (fun d => d.parameters.length) = some 2 := by decide +kernel
theorem hds_Le_tells : y_Le_tells.name ≠ "<init>" ∧ (parseMethodDescriptor y_Le_tells.desc).map (fun d => d.parameters.length) = some 2 := by decide +kernel
theorem d_Le_tells_0 : decode b_Le_tells 0 = .ok (.bipush 41, 2) := by decide +kernel
theorem d_Le_tells_2 : decode b_Le_tells 2 = .ok (.aload_n 2, 1) := by decide +kernel
theorem d_Le_tells_3 : decode b_Le_tells 3 = .ok (.invokestatic 7, 3) := by decide +kernel
theorem d_Le_tells_6 : decode b_Le_tells 6 = .ok (.aload_n 0, 1) := by decide +kernel
theorem d_Le_tells_7 : decode b_Le_tells 7 = .ok (.iload_n 1, 1) := by decide +kernel
theorem d_Le_tells_8 : decode b_Le_tells 8 = .ok (.iconst 1, 1) := by decide +kernel
theorem d_Le_tells_9 : decode b_Le_tells 9 = .ok (.isub, 1) := by decide +kernel
theorem d_Le_tells_10 : decode b_Le_tells 10 = .ok (.aload_n 2, 1) := by decide +kernel
theorem d_Le_tells_11 : decode b_Le_tells 11 = .ok (.invokespecial 13, 3) := by decide +kernel
theorem d_Le_tells_14 : decode b_Le_tells 14 = .ok (.aload_n 0, 1) := by decide +kernel
theorem d_Le_tells_15 : decode b_Le_tells 15 = .ok (.iconst 2, 1) := by decide +kernel
theorem d_Le_tells_16 : decode b_Le_tells 16 = .ok (.aload_n 2, 1) := by decide +kernel
theorem d_Le_tells_17 : decode b_Le_tells 17 = .ok (.invokevirtual 17, 3) := by decide +kernel
theorem d_Le_tells_20 : decode b_Le_tells 20 = .ok (.iadd, 1) := by decide +kernel
theorem d_Le_tells_21 : decode b_Le_tells 21 = .ok (.ireturn, 1) := by decide +kernel
def p_Le_tells (n : Nat) (E : PE) (v0 : Nat) (v1 : Int32) (F : Nat → Nat → Int32) (G : Nat → Nat → Int32) (P : Nat → Nat → Option Nat) (N : Nat → Nat) : Option (Int32 × CU) := (p_Wa_begin n E 41 F G P N).bind fun (F3, G4, P5, N6) => if eV E v0 = true then (p_Wa_tells n E v0 (v1 - 1) F3 G4 P5 N6).bind fun (x8, F9, G10, P11, N12) => if eC E v0 = 3 then (p_Qu_goes n E v0 2 F9 G10 P11 N12).bind fun (x15, F16, G17, P18, N19) => some ((x8 + x15), F16, G17, P18, N19) else none else none
set_option maxHeartbeats 4000000 in
theorem c_Le_tells (l : Launch) (n : Nat) (E : PE) (v0 : Nat) (v1 : Int32) (F : Nat → Nat → Int32) (G : Nat → Nat → Int32) (P : Nat → Nat → Option Nat) (N : Nat → Nat)  : CMi l y_Le_tells b_Le_tells 3 .int (rL 17) E (fun ad => [.ref v0, .int v1, .ref (ad 5)]) F G P N (p_Le_tells n E v0 v1 F G P N) := by
  refine en_ci (by decide) (fun _ => Nat.le_of_ble_eq_true rfl) ?_
  intro z hf p e s m args below meth c dC dI ad cI cZ cW cJ A adK adV ls C hA h hr hlk hl
  have hl : lv_has ls 3 [(0, .ref v0), (1, .int v1), (2, .ref (ad 5))] := hl
  unfold p_Le_tells at hf
  obtain ⟨hx, hb, hml, hown, hT, hK, hTS, hTR, hpS, hi⟩ := id C
  refine lv_bipush (v := 41) hx hb d_Le_tells_0 (by decide) ?_
  refine lv_aload_n hx hb d_Le_tells_2 rfl (lv_at hl 2 rfl) ?_
  obtain ⟨⟨F3, G4, P5, N6⟩, hc1, hf⟩ := op_bind hf
  try dsimp only at hf
  refine kxr_v h hA (runSx (x := ⟨"LanternBridge$Leading", "begin", "(I[I)V"⟩) (As := [.int 41, .ref (ad 5)]) (rest := []) ⟨hx, hb, hml, hown, hT⟩ (c_Wa_begin l n E 41 F G P N _ hc1 dC dI ad cI cZ cW cJ adK adV _) rfl rfl (rL_ok (d := 5) (d' := 17) (k := 3) (by decide) (by decide)) (pay_in hT (goodW cd_Wa_begin)) List.mem_cons_self (hT _ ini_Wa) (hT _ cd_Wa_begin) (hT _ ml_Le_7) (hT _ w4_141) rfl rfl (hT _ sm_Wa_begin) hd_Wa_begin ⟨fun a U g mk q => ⟨q.1, cPre_bl a U g mk q.2⟩, fun U hU hW => ⟨rfl, cPre_to C h hA U hU hW⟩⟩ rfl rfl hl.1 rfl (lv_room (Nat.le_of_ble_eq_true rfl)) d_Le_tells_3 ⟨Nat.zero_le _, Nat.zero_le _⟩) (fun H locs h => ?_)
  refine lv_aload_n hx hb d_Le_tells_6 rfl (lv_at hl 0 rfl) ?_
  refine lv_iload_n hx hb d_Le_tells_7 rfl (lv_at hl 1 rfl) ?_
  refine lv_iconst (v := 1) hx hb d_Le_tells_8 (by decide) ?_
  refine lv_isub hx hb d_Le_tells_9 ?_
  refine lv_aload_n hx hb d_Le_tells_10 rfl (lv_at hl 2 rfl) ?_
  obtain ⟨h13, hf⟩ := op_if hf
  obtain ⟨⟨x8, F9, G10, P11, N12⟩, hc7, hf⟩ := op_bind hf
  try dsimp only at hf
  obtain ⟨cC, hat⟩ := w_classAt hK ((cpS hpS h).1 v0 h13).1
  refine kxr_i h hA (runSUx (n := 2) (C := wNm (eC E v0)) (b := v0) (x := ⟨"LanternBridge$Quick", "tells", "(I[I)I"⟩) (As := [.int (v1 - 1), .ref (ad 5)]) (rest := []) hat ⟨hx, hb, hml, hown, hT⟩ (c_Wa_tells l n E v0 (v1 - 1) F3 G4 P5 N6 _ hc7 dC dI ad cI cZ cW cJ adK adV _) rfl rfl (rL_ok (d := 16) (d' := 17) (k := 3) (by decide) (by decide)) (pay_in hT (goodW cd_Wa_tells)) List.mem_cons_self (hT _ ini_Wa) (hT _ cd_Wa_tells) (hT _ ml_Le_13) (hT _ w4_143) rfl rfl (hT _ im_Wa_tells) (hT _ su_Le_Qu) (sub_up (hT _ su_Qu_Wa)) hds_Wa_tells ⟨fun a U g mk q => ⟨q.1, cPre_bl a U g mk q.2⟩, wrc hK ((cpS hpS h).1 v0 h13).1 ((cpS hpS h).1 v0 h13).2.1, fun U hU hW => ⟨rfl, cPre_to C h hA U hU hW⟩⟩ rfl rfl hl.1 rfl (lv_room (Nat.le_of_ble_eq_true rfl)) d_Le_tells_11 ⟨Nat.zero_le _, Nat.zero_le _⟩) (fun H locs h => ?_)
  refine lv_aload_n hx hb d_Le_tells_14 rfl (lv_at hl 0 rfl) ?_
  refine lv_iconst (v := 2) hx hb d_Le_tells_15 (by decide) ?_
  refine lv_aload_n hx hb d_Le_tells_16 rfl (lv_at hl 2 rfl) ?_
  obtain ⟨h20, hf⟩ := op_if hf
  obtain ⟨⟨x15, F16, G17, P18, N19⟩, hc14, hf⟩ := op_bind hf
  try dsimp only at hf
  have hrc := wrc hK ((cpS hpS h).1 v0 h13).1 ((cpS hpS h).1 v0 h13).2.1
  rw [h20] at hrc
  refine kxr_i h hA (va_runU (C := wNm 3) (owner := "LanternBridge$Quick") (x := ⟨"LanternBridge$Leading", "goes", "(I[I)I"⟩) (b := v0) (As := [.int 2, .ref (ad 5)]) (rest := [.int x8]) ⟨hx, hb, hml, hown, hT⟩ (c_Qu_goes l n E v0 2 F9 G10 P11 N12 _ hc14 dC dI ad cI cZ cW cJ adK adV _) (va_cwO 2 hT (goodO ml_Le_17 w4_146 im_Qu_goes se_Le_Le_goes__Qu_goes im_Qu_goes ini_Qu cd_Qu_goes) rfl rfl rfl cd_Qu_goes (by decide +kernel) ⟨Nat.le_of_ble_eq_true rfl, Nat.le_of_ble_eq_true rfl⟩) ⟨fun a U g mk q => ⟨q.1, cPre_bl a U g mk q.2⟩, hrc, fun U hU hW => ⟨rfl, cPre_to C h hA U hU hW⟩⟩ rfl rfl hl.1 rfl (lv_room (Nat.le_of_ble_eq_true rfl)) d_Le_tells_17 ⟨Nat.zero_le _, Nat.zero_le _⟩) (fun H locs h => ?_)
  refine lv_iadd hx hb d_Le_tells_20 ?_
  exact rt_ci C h hr hlk hf rfl d_Le_tells_21
def pd_tells (n : Nat) (E : PE) (a0 : Nat) (v : Int32) (F G : Nat → Nat → Int32) (P : Nat → Nat → Option Nat) (N : Nat → Nat) : Option (Int32 × CU) := if eC E a0 = 0 then p_Wa_tells n E a0 v F G P N else if eC E a0 = 2 then p_Wa_tells n E a0 v F G P N else if eC E a0 = 3 then p_Le_tells n E a0 v F G P N else if eC E a0 = 5 then p_Wa_tells n E a0 v F G P N else if eC E a0 = 8 then p_Ti_tells n E a0 v F G P N else if eC E a0 = 9 then p_Ti_tells n E a0 v F G P N else p_Wa_tells n E a0 v F G P N
set_option maxHeartbeats 4000000 in
theorem kv_tells {p : Program} {l : Launch} {e : Env} {Rm : Room} {s : State} {m : MethodId} {args : Array Value} {below : List Frame} {meth : Method} {c : Code} {H : Heap} {locs : List Loc} {cells slots : Nat} {Q : State → Prop} {cc : ByteArray} {nL pc ix a0 : Nat} {ls : Array Slot} {rest : List Value} {dC : Nat → ClassId} {dI : Nat → Nat → Nat} {ad : Nat → Nat} {cI cZ cW cJ : ClassId} {F G F' G' : Nat → Nat → Int32} {P P' : Nat → Nat → Option Nat} {N N' : Nat → Nat} {A : Nat → Prop} {adK adV : Nat → Nat} {E : PE} {own : String} {r v : Int32} (n : Nat) (C : cC p s m args c cc nL own dC dI cI cZ cW cJ A adK adV E) (h : cH A s.heap dC dI ad cI cZ cW cJ F G P N H locs) (hA : ∀ q, s.heap.size ≤ q → A q) (hV : eV E a0 = true) (hf : pd_tells n E a0 v F G P N = some (r, F', G', P', N')) (ml : Cond.methodLink own ix y_Wa_tells ∈ WT) (hR : 20 ≤ Rm.frames ∧ 800 ≤ Rm.locals) (hsz : ls.size = nL) (hW : (rest.map fun v => v.category).sum ≤ 8) (hdg : decode cc pc = .ok (.invokevirtual ix, 3)) (hcs : cells ≤ Rm.cells ∧ slots ≤ Rm.slots)
    (kk : ∀ (H1 : Heap) (locs1 : List Loc), cH A s.heap dC dI ad cI cZ cW cJ F' G' P' N' H1 locs1 → W p l e Rm s m args below meth c H1 locs1 cells slots Q (F0 m (pc + 3) ls (.int r :: rest))) : W p l e Rm s m args below meth c H locs cells slots Q (F0 m pc ls (.ref (ad 5) :: .int v :: .ref a0 :: rest)) := by
  obtain ⟨hx, hb, hml, hown, hT, hK, hTS, hTR, hpS, hi⟩ := id C
  have hci := ((cpS hpS h).1 a0 hV).1
  have hrc := wrc hK hci ((cpS hpS h).1 a0 hV).2.1
  have he := hci
  simp only [wcl, List.mem_cons, List.not_mem_nil, or_false] at he
  rcases he with he | he | he | he | he | he | he
  · rw [pd_tells, if_pos he] at hf
    rw [he] at hrc
    exact kxr_i h hA (va_runU (C := wNm 0) (owner := "LanternBridge$Walker") (x := y_Wa_tells) (b := a0) (As := [.int v, .ref (ad 5)]) (rest := rest) ⟨hx, hb, hml, hown, hT⟩ (c_Wa_tells l n E a0 v F G P N _ hf dC dI ad cI cZ cW cJ adK adV _) (va_cwO 2 hT (goodO ml w4_134 im_Wa_tells se_Ca_Wa_tells__Wa_tells im_Wa_tells ini_Wa cd_Wa_tells) rfl rfl rfl cd_Wa_tells (by decide +kernel) ⟨by show 16 + 1 ≤ _; omega, by show 8 + (3 + 11) + 40 * 16 ≤ _; omega⟩) ⟨fun a U g mk q => ⟨q.1, cPre_bl a U g mk q.2⟩, hrc, fun U hU hW => ⟨rfl, cPre_to C h hA U hU hW⟩⟩ rfl rfl hsz rfl (lv_room hW) hdg hcs) kk
  · rw [pd_tells, if_neg (by rw [he]; decide), if_pos he] at hf
    rw [he] at hrc
    exact kxr_i h hA (va_runU (C := wNm 2) (owner := "LanternBridge$Walker") (x := y_Wa_tells) (b := a0) (As := [.int v, .ref (ad 5)]) (rest := rest) ⟨hx, hb, hml, hown, hT⟩ (c_Wa_tells l n E a0 v F G P N _ hf dC dI ad cI cZ cW cJ adK adV _) (va_cwO 2 hT (goodO ml w4_134 im_Wa_tells se_La_Wa_tells__Wa_tells im_Wa_tells ini_Wa cd_Wa_tells) rfl rfl rfl cd_Wa_tells (by decide +kernel) ⟨by show 16 + 1 ≤ _; omega, by show 8 + (3 + 11) + 40 * 16 ≤ _; omega⟩) ⟨fun a U g mk q => ⟨q.1, cPre_bl a U g mk q.2⟩, hrc, fun U hU hW => ⟨rfl, cPre_to C h hA U hU hW⟩⟩ rfl rfl hsz rfl (lv_room hW) hdg hcs) kk
  · rw [pd_tells, if_neg (by rw [he]; decide), if_neg (by rw [he]; decide), if_pos he] at hf
    rw [he] at hrc
    exact kxr_i h hA (va_runU (C := wNm 3) (owner := "LanternBridge$Walker") (x := y_Wa_tells) (b := a0) (As := [.int v, .ref (ad 5)]) (rest := rest) ⟨hx, hb, hml, hown, hT⟩ (c_Le_tells l n E a0 v F G P N _ hf dC dI ad cI cZ cW cJ adK adV _) (va_cwO 2 hT (goodO ml w4_134 im_Wa_tells se_Le_Wa_tells__Le_tells im_Le_tells ini_Le cd_Le_tells) rfl rfl rfl cd_Wa_tells (by decide +kernel) ⟨by show 17 + 1 ≤ _; omega, by show 8 + (3 + 11) + 40 * 17 ≤ _; omega⟩) ⟨fun a U g mk q => ⟨q.1, cPre_bl a U g mk q.2⟩, hrc, fun U hU hW => ⟨rfl, cPre_to C h hA U hU hW⟩⟩ rfl rfl hsz rfl (lv_room hW) hdg hcs) kk
  · rw [pd_tells, if_neg (by rw [he]; decide), if_neg (by rw [he]; decide), if_neg (by rw [he]; decide), if_pos he] at hf
    rw [he] at hrc
    exact kxr_i h hA (va_runU (C := wNm 5) (owner := "LanternBridge$Walker") (x := y_Wa_tells) (b := a0) (As := [.int v, .ref (ad 5)]) (rest := rest) ⟨hx, hb, hml, hown, hT⟩ (c_Wa_tells l n E a0 v F G P N _ hf dC dI ad cI cZ cW cJ adK adV _) (va_cwO 2 hT (goodO ml w4_134 im_Wa_tells se_Qu_Wa_tells__Wa_tells im_Wa_tells ini_Wa cd_Wa_tells) rfl rfl rfl cd_Wa_tells (by decide +kernel) ⟨by show 16 + 1 ≤ _; omega, by show 8 + (3 + 11) + 40 * 16 ≤ _; omega⟩) ⟨fun a U g mk q => ⟨q.1, cPre_bl a U g mk q.2⟩, hrc, fun U hU hW => ⟨rfl, cPre_to C h hA U hU hW⟩⟩ rfl rfl hsz rfl (lv_room hW) hdg hcs) kk
  · rw [pd_tells, if_neg (by rw [he]; decide), if_neg (by rw [he]; decide), if_neg (by rw [he]; decide), if_neg (by rw [he]; decide), if_pos he] at hf
    rw [he] at hrc
    exact kxr_i h hA (va_runU (C := wNm 8) (owner := "LanternBridge$Walker") (x := y_Wa_tells) (b := a0) (As := [.int v, .ref (ad 5)]) (rest := rest) ⟨hx, hb, hml, hown, hT⟩ (c_Ti_tells l n E a0 v F G P N _ hf dC dI ad cI cZ cW cJ adK adV _) (va_cwO 2 hT (goodO ml w4_134 im_Wa_tells se_Ti_Wa_tells__Ti_tells im_Ti_tells ini_Ti cd_Ti_tells) rfl rfl rfl cd_Wa_tells (by decide +kernel) ⟨by show 17 + 1 ≤ _; omega, by show 8 + (3 + 11) + 40 * 17 ≤ _; omega⟩) ⟨fun a U g mk q => ⟨q.1, cPre_bl a U g mk q.2⟩, hrc, fun U hU hW => ⟨rfl, cPre_to C h hA U hU hW⟩⟩ rfl rfl hsz rfl (lv_room hW) hdg hcs) kk
  · rw [pd_tells, if_neg (by rw [he]; decide), if_neg (by rw [he]; decide), if_neg (by rw [he]; decide), if_neg (by rw [he]; decide), if_neg (by rw [he]; decide), if_pos he] at hf
    rw [he] at hrc
    exact kxr_i h hA (va_runU (C := wNm 9) (owner := "LanternBridge$Walker") (x := y_Wa_tells) (b := a0) (As := [.int v, .ref (ad 5)]) (rest := rest) ⟨hx, hb, hml, hown, hT⟩ (c_Ti_tells l n E a0 v F G P N _ hf dC dI ad cI cZ cW cJ adK adV _) (va_cwO 2 hT (goodO ml w4_134 im_Wa_tells se_Tr_Wa_tells__Ti_tells im_Ti_tells ini_Ti cd_Ti_tells) rfl rfl rfl cd_Wa_tells (by decide +kernel) ⟨by show 17 + 1 ≤ _; omega, by show 8 + (3 + 11) + 40 * 17 ≤ _; omega⟩) ⟨fun a U g mk q => ⟨q.1, cPre_bl a U g mk q.2⟩, hrc, fun U hU hW => ⟨rfl, cPre_to C h hA U hU hW⟩⟩ rfl rfl hsz rfl (lv_room hW) hdg hcs) kk
  · rw [pd_tells, if_neg (by rw [he]; decide), if_neg (by rw [he]; decide), if_neg (by rw [he]; decide), if_neg (by rw [he]; decide), if_neg (by rw [he]; decide), if_neg (by rw [he]; decide)] at hf
    rw [he] at hrc
    exact kxr_i h hA (va_runU (C := wNm 10) (owner := "LanternBridge$Walker") (x := y_Wa_tells) (b := a0) (As := [.int v, .ref (ad 5)]) (rest := rest) ⟨hx, hb, hml, hown, hT⟩ (c_Wa_tells l n E a0 v F G P N _ hf dC dI ad cI cZ cW cJ adK adV _) (va_cwO 2 hT (goodO ml w4_134 im_Wa_tells se_Wa_Wa_tells__Wa_tells im_Wa_tells ini_Wa cd_Wa_tells) rfl rfl rfl cd_Wa_tells (by decide +kernel) ⟨by show 16 + 1 ≤ _; omega, by show 8 + (3 + 11) + 40 * 16 ≤ _; omega⟩) ⟨fun a U g mk q => ⟨q.1, cPre_bl a U g mk q.2⟩, hrc, fun U hU hW => ⟨rfl, cPre_to C h hA U hU hW⟩⟩ rfl rfl hsz rfl (lv_room hW) hdg hcs) kk
theorem hd_LB_act : y_LB_act.cls ≠ "java/lang/invoke/MethodHandle" ∧ y_LB_act.cls ≠ "java/lang/invoke/VarHandle" ∧ (parseMethodDescriptor y_LB_act.desc).map (fun d => d.parameters.length) = some 3 := by decide +kernel
theorem d_LB_act_0 : decode b_LB_act 0 = .ok (.aload_n 0, 1) := by decide +kernel
theorem d_LB_act_1 : decode b_LB_act 1 = .ok (.getfield 21, 3) := by decide +kernel
theorem d_LB_act_4 : decode b_LB_act 4 = .ok (.iconst 0, 1) := by decide +kernel
theorem d_LB_act_5 : decode b_LB_act 5 = .ok (.iconst 0, 1) := by decide +kernel
theorem d_LB_act_6 : decode b_LB_act 6 = .ok (.iastore, 1) := by decide +kernel
theorem d_LB_act_7 : decode b_LB_act 7 = .ok (.aload_n 0, 1) := by decide +kernel
theorem d_LB_act_8 : decode b_LB_act 8 = .ok (.getfield 12, 3) := by decide +kernel
theorem d_LB_act_11 : decode b_LB_act 11 = .ok (.iload_n 1, 1) := by decide +kernel
theorem d_LB_act_12 : decode b_LB_act 12 = .ok (.invokevirtual 81, 3) := by decide +kernel
theorem d_LB_act_15 : decode b_LB_act 15 = .ok (.astore 4, 2) := by decide +kernel
theorem d_LB_act_17 : decode b_LB_act 17 = .ok (.aload 4, 2) := by decide +kernel
theorem d_LB_act_19 : decode b_LB_act 19 = .ok (.ifnonnull 5, 3) := by decide +kernel
theorem d_LB_act_22 : decode b_LB_act 22 = .ok (.iconst 0, 1) := by decide +kernel
theorem d_LB_act_23 : decode b_LB_act 23 = .ok (.ireturn, 1) := by decide +kernel
theorem d_LB_act_24 : decode b_LB_act 24 = .ok (.iload_n 2, 1) := by decide +kernel
theorem d_LB_act_25 : decode b_LB_act 25 = .ok (.tableswitch 60 0 2 #[27, 38, 49], 27) := by decide +kernel
theorem d_LB_act_52 : decode b_LB_act 52 = .ok (.aload 4, 2) := by decide +kernel
theorem d_LB_act_54 : decode b_LB_act 54 = .ok (.iload_n 3, 1) := by decide +kernel
theorem d_LB_act_55 : decode b_LB_act 55 = .ok (.aload_n 0, 1) := by decide +kernel
theorem d_LB_act_56 : decode b_LB_act 56 = .ok (.getfield 21, 3) := by decide +kernel
theorem d_LB_act_59 : decode b_LB_act 59 = .ok (.invokevirtual 220, 3) := by decide +kernel
theorem d_LB_act_62 : decode b_LB_act 62 = .ok (.ireturn, 1) := by decide +kernel
theorem d_LB_act_63 : decode b_LB_act 63 = .ok (.aload 4, 2) := by decide +kernel
theorem d_LB_act_65 : decode b_LB_act 65 = .ok (.iload_n 3, 1) := by decide +kernel
theorem d_LB_act_66 : decode b_LB_act 66 = .ok (.aload_n 0, 1) := by decide +kernel
theorem d_LB_act_67 : decode b_LB_act 67 = .ok (.getfield 21, 3) := by decide +kernel
theorem d_LB_act_70 : decode b_LB_act 70 = .ok (.invokevirtual 224, 3) := by decide +kernel
theorem d_LB_act_73 : decode b_LB_act 73 = .ok (.ireturn, 1) := by decide +kernel
theorem d_LB_act_74 : decode b_LB_act 74 = .ok (.aload 4, 2) := by decide +kernel
theorem d_LB_act_76 : decode b_LB_act 76 = .ok (.iload_n 3, 1) := by decide +kernel
theorem d_LB_act_77 : decode b_LB_act 77 = .ok (.aload_n 0, 1) := by decide +kernel
theorem d_LB_act_78 : decode b_LB_act 78 = .ok (.getfield 21, 3) := by decide +kernel
theorem d_LB_act_81 : decode b_LB_act 81 = .ok (.invokevirtual 227, 3) := by decide +kernel
theorem d_LB_act_84 : decode b_LB_act 84 = .ok (.ireturn, 1) := by decide +kernel
theorem d_LB_act_85 : decode b_LB_act 85 = .ok (.iconst 0, 1) := by decide +kernel
theorem d_LB_act_86 : decode b_LB_act 86 = .ok (.ireturn, 1) := by decide +kernel
def p_LB_act (n : Nat) (E : PE) (v1 : Int32) (v2 : Int32) (v3 : Int32) (F : Nat → Nat → Int32) (G : Nat → Nat → Int32) (P : Nat → Nat → Option Nat) (N : Nat → Nat) : Option (Int32 × CU) := (p_St_walker n E F (upR G 5 0 0) P N v1).bind fun x2 => (Option.elim x2 (some (0, F, (upR G 5 0 0), P, N)) (fun a3 => (if v2 = 0 then if eV E a3 = true then (pd_goes n E a3 v3 F (upR G 5 0 0) P N).bind fun (x5, F7, G8, P9, N10) => some (x5, F7, G8, P9, N10) else none else if v2 = 1 then if eV E a3 = true then (pd_waits n E a3 v3 F (upR G 5 0 0) P N).bind fun (x12, F14, G15, P16, N17) => some (x12, F14, G15, P16, N17) else none else if v2 = 2 then if eV E a3 = true then (pd_tells n E a3 v3 F (upR G 5 0 0) P N).bind fun (x19, F21, G22, P23, N24) => some (x19, F21, G22, P23, N24) else none else some (0, F, (upR G 5 0 0), P, N))))
set_option maxHeartbeats 4000000 in
theorem c_LB_act (l : Launch) (n : Nat) (E : PE) (v1 : Int32) (v2 : Int32) (v3 : Int32) (F : Nat → Nat → Int32) (G : Nat → Nat → Int32) (P : Nat → Nat → Option Nat) (N : Nat → Nat)  : CMi l y_LB_act b_LB_act 5 .int (rL 20) E (fun ad => [.ref (ad 0), .int v1, .int v2, .int v3]) F G P N (p_LB_act n E v1 v2 v3 F G P N) := by
  refine en_ci (by decide) (fun _ => Nat.le_of_ble_eq_true rfl) ?_
  intro z hf p e s m args below meth c dC dI ad cI cZ cW cJ A adK adV ls C hA h hr hlk hl
  have hl : lv_has ls 5 [(0, .ref (ad 0)), (1, .int v1), (2, .int v2), (3, .int v3)] := hl
  unfold p_LB_act at hf
  obtain ⟨hx, hb, hml, hown, hT, hK, hTS, hTR, hpS, hi⟩ := id C
  refine lv_aload_n hx hb d_LB_act_0 rfl (lv_at hl 0 rfl) ?_
  refine cg_0_3 hx hb hT hown hK h.1 fl_LB_21 d_LB_act_1 ?_
  refine lv_iconst (v := 0) hx hb d_LB_act_4 (by decide) ?_
  refine lv_iconst (v := 0) hx hb d_LB_act_5 (by decide) ?_
  refine cs_5 hx hb hK h (j := 0) (by decide) (show ix 0 21 by decide) d_LB_act_6 (fun H locs h => ?_)
  refine lv_aload_n hx hb d_LB_act_7 rfl (lv_at hl 0 rfl) ?_
  refine cg_0_0 hx hb hT hown hK h.1 fl_LB_12 d_LB_act_8 ?_
  refine lv_iload_n hx hb d_LB_act_11 rfl (lv_at hl 1 rfl) ?_
  obtain ⟨x2, hc1, hf⟩ := op_bind hf
  refine kr_q (C := R_St) (b0 := ad 1) (rest := []) hx hb hml hown hT cB_bl (cB_to hK h.1 (cpS hpS h) hi) (va_recv hK h.1 (ci := 7) (q0 := 1) rfl rfl) (c_St_walker l n E F (upR G 5 0 0) P N dC dI ad cI cZ cW cJ v1 _ hc1) (cbW 1 hT cd_St_walker rfl rfl ini_St ml_LB_81 hd_St_walker ⟨Nat.le_of_ble_eq_true rfl, Nat.le_of_ble_eq_true rfl⟩) im_St_walker se_St_St_walker__St_walker rfl hl.1 rfl (Nat.le_of_ble_eq_true rfl) d_LB_act_12 ⟨Nat.zero_le _, Nat.zero_le _⟩ ?_
  cases x2 with
  | none =>
    have hf := op_en hf
    refine lv_astoreN (lv' := [(4, .null), (0, .ref (ad 0)), (1, .int v1), (2, .int v2), (3, .int v3)]) hx hb d_LB_act_15 hl (by decide) rfl (fun ls hl => ?_)
    refine lv_aloadN hx hb d_LB_act_17 (lv_at hl 0 rfl) ?_
    refine lv_ifnonnullN hx hb d_LB_act_19 ?_
    refine lv_iconst (v := 0) hx hb d_LB_act_22 (by decide) ?_
    exact rt_ci C h hr hlk hf rfl d_LB_act_23
  | some a3 =>
    have hf := op_es hf
    refine lv_astore (lv' := [(4, .ref a3), (0, .ref (ad 0)), (1, .int v1), (2, .int v2), (3, .int v3)]) hx hb d_LB_act_15 hl (by decide) rfl (fun ls hl => ?_)
    refine lv_aload hx hb d_LB_act_17 (lv_at hl 0 rfl) ?_
    refine lv_ifnonnull (tgt := 24) hx hb d_LB_act_19 (by decide) ?_
    refine lv_iload_n hx hb d_LB_act_24 rfl (lv_at hl 3 rfl) ?_
    by_cases hs0 : v2 = 0
    · have hf := op_t hs0 hf
      refine lv_tableIn (tgt := 52) (off := 27) hx hb d_LB_act_25 (by rw [hs0]; decide) (by rw [hs0]; decide) (by rw [hs0]; decide) (by decide) ?_
      refine lv_aload hx hb d_LB_act_52 (lv_at hl 0 rfl) ?_
      refine lv_iload_n hx hb d_LB_act_54 rfl (lv_at hl 4 rfl) ?_
      refine lv_aload_n hx hb d_LB_act_55 rfl (lv_at hl 1 rfl) ?_
      refine cg_0_3 hx hb hT hown hK h.1 fl_LB_21 d_LB_act_56 ?_
      obtain ⟨h6, hf⟩ := op_if hf
      obtain ⟨⟨x5, F7, G8, P9, N10⟩, hc4, hf⟩ := op_bind hf
      try dsimp only at hf
      refine kv_goes (rest := []) n C h hA h6 hc4 ml_LB_220 ⟨Nat.le_of_ble_eq_true rfl, Nat.le_of_ble_eq_true rfl⟩ hl.1 (Nat.le_of_ble_eq_true rfl) d_LB_act_59 ⟨Nat.zero_le _, Nat.zero_le _⟩ (fun H locs h => ?_)
      exact rt_ci C h hr hlk hf rfl d_LB_act_62
    · have hf := op_f hs0 hf
      by_cases hs1 : v2 = 1
      · have hf := op_t hs1 hf
        refine lv_tableIn (tgt := 63) (off := 38) hx hb d_LB_act_25 (by rw [hs1]; decide) (by rw [hs1]; decide) (by rw [hs1]; decide) (by decide) ?_
        refine lv_aload hx hb d_LB_act_63 (lv_at hl 0 rfl) ?_
        refine lv_iload_n hx hb d_LB_act_65 rfl (lv_at hl 4 rfl) ?_
        refine lv_aload_n hx hb d_LB_act_66 rfl (lv_at hl 1 rfl) ?_
        refine cg_0_3 hx hb hT hown hK h.1 fl_LB_21 d_LB_act_67 ?_
        obtain ⟨h13, hf⟩ := op_if hf
        obtain ⟨⟨x12, F14, G15, P16, N17⟩, hc11, hf⟩ := op_bind hf
        try dsimp only at hf
        refine kv_waits (rest := []) n C h hA h13 hc11 ml_LB_224 ⟨Nat.le_of_ble_eq_true rfl, Nat.le_of_ble_eq_true rfl⟩ hl.1 (Nat.le_of_ble_eq_true rfl) d_LB_act_70 ⟨Nat.zero_le _, Nat.zero_le _⟩ (fun H locs h => ?_)
        exact rt_ci C h hr hlk hf rfl d_LB_act_73
      · have hf := op_f hs1 hf
        by_cases hs2 : v2 = 2
        · have hf := op_t hs2 hf
          refine lv_tableIn (tgt := 74) (off := 49) hx hb d_LB_act_25 (by rw [hs2]; decide) (by rw [hs2]; decide) (by rw [hs2]; decide) (by decide) ?_
          refine lv_aload hx hb d_LB_act_74 (lv_at hl 0 rfl) ?_
          refine lv_iload_n hx hb d_LB_act_76 rfl (lv_at hl 4 rfl) ?_
          refine lv_aload_n hx hb d_LB_act_77 rfl (lv_at hl 1 rfl) ?_
          refine cg_0_3 hx hb hT hown hK h.1 fl_LB_21 d_LB_act_78 ?_
          obtain ⟨h20, hf⟩ := op_if hf
          obtain ⟨⟨x19, F21, G22, P23, N24⟩, hc18, hf⟩ := op_bind hf
          try dsimp only at hf
          refine kv_tells (rest := []) n C h hA h20 hc18 ml_LB_227 ⟨Nat.le_of_ble_eq_true rfl, Nat.le_of_ble_eq_true rfl⟩ hl.1 (Nat.le_of_ble_eq_true rfl) d_LB_act_81 ⟨Nat.zero_le _, Nat.zero_le _⟩ (fun H locs h => ?_)
          exact rt_ci C h hr hlk hf rfl d_LB_act_84
        · have hf := op_f hs2 hf
          have et0 := tn_ne (v := 0) (by decide) hs0
          have et1 := tn_ne (v := 1) (by decide) hs1
          have et2 := tn_ne (v := 2) (by decide) hs2
          refine lv_tableOut (tgt := 85) hx hb d_LB_act_25 (by omega) (by decide) ?_
          refine lv_iconst (v := 0) hx hb d_LB_act_85 (by decide) ?_
          exact rt_ci C h hr hlk hf rfl d_LB_act_86
