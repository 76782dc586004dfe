theorem hd_LB_sharedWithTen : y_LB_sharedWithTen.cls ≠ "java/lang/invoke/MethodHandle" ∧ y_LB_sharedWithTen.cls ≠ "java/lang/invoke/VarHandle" ∧ (parseMethodDescriptor y_LB_sharedWithTen.desc).map (fun d => d.parameters.length) = some 1 := by decide +kernel
theorem d_LB_sharedWithTen_0 : decode b_LB_sharedWithTen 0 = .ok (.bipush 10, 2) := by decide +kernel
theorem d_LB_sharedWithTen_2 : decode b_LB_sharedWithTen 2 = .ok (.istore_n 1, 1) := by decide +kernel
theorem d_LB_sharedWithTen_3 : decode b_LB_sharedWithTen 3 = .ok (.iload_n 1, 1) := by decide +kernel
theorem d_LB_sharedWithTen_4 : decode b_LB_sharedWithTen 4 = .ok (.iconst 1, 1) := by decide +kernel
theorem d_LB_sharedWithTen_5 : decode b_LB_sharedWithTen 5 = .ok (.if_icmp .le 24, 3) := by decide +kernel
theorem d_LB_sharedWithTen_8 : decode b_LB_sharedWithTen 8 = .ok (.bipush 10, 2) := by decide +kernel
theorem d_LB_sharedWithTen_10 : decode b_LB_sharedWithTen 10 = .ok (.iload_n 1, 1) := by decide +kernel
theorem d_LB_sharedWithTen_11 : decode b_LB_sharedWithTen 11 = .ok (.irem, 1) := by decide +kernel
theorem d_LB_sharedWithTen_12 : decode b_LB_sharedWithTen 12 = .ok (.ifCond .ne 11, 3) := by decide +kernel
theorem d_LB_sharedWithTen_15 : decode b_LB_sharedWithTen 15 = .ok (.iload_n 0, 1) := by decide +kernel
theorem d_LB_sharedWithTen_16 : decode b_LB_sharedWithTen 16 = .ok (.iload_n 1, 1) := by decide +kernel
theorem d_LB_sharedWithTen_17 : decode b_LB_sharedWithTen 17 = .ok (.irem, 1) := by decide +kernel
theorem d_LB_sharedWithTen_18 : decode b_LB_sharedWithTen 18 = .ok (.ifCond .ne 5, 3) := by decide +kernel
theorem d_LB_sharedWithTen_21 : decode b_LB_sharedWithTen 21 = .ok (.iload_n 1, 1) := by decide +kernel
theorem d_LB_sharedWithTen_22 : decode b_LB_sharedWithTen 22 = .ok (.ireturn, 1) := by decide +kernel
theorem d_LB_sharedWithTen_23 : decode b_LB_sharedWithTen 23 = .ok (.iinc 1 (-1), 3) := by decide +kernel
theorem d_LB_sharedWithTen_26 : decode b_LB_sharedWithTen 26 = .ok (.goto (-23), 3) := by decide +kernel
theorem d_LB_sharedWithTen_29 : decode b_LB_sharedWithTen 29 = .ok (.iconst 1, 1) := by decide +kernel
theorem d_LB_sharedWithTen_30 : decode b_LB_sharedWithTen 30 = .ok (.ireturn, 1) := by decide +kernel
def l_LB_sharedWithTen_3 (n : Nat)  (v0 : Int32)  : Nat → Int32 → Option (Int32)
  | 0, _ => none
  | k + 1, v1 => (if v1 ≤ 1 then some 1 else if ¬ v1 = 0 then (if (10 - 10 / v1 * v1) = 0 then if ¬ v1 = 0 then (if (v0 - v0 / v1 * v1) = 0 then some v1 else l_LB_sharedWithTen_3 n v0 k (v1 + (-1))) else none else l_LB_sharedWithTen_3 n v0 k (v1 + (-1))) else none)
set_option maxHeartbeats 4000000 in
theorem wl_LB_sharedWithTen_3  {p : Program} {l : Launch} {e : Env} {s : State} {m : MethodId} {args : Array Value} {below : List Frame} {meth : Method} {c : Code} (hx : p.tables.exec = Jvm.exec) (hb : c.code = b_LB_sharedWithTen) (hml : c.maxLocals = 2) (hown : s.vm.findClass "LanternBridge" = some m.cls) (hT : ∀ w ∈ WT, w.before args s = true) (hr : meth.sig.returnType = some .int) (hlk : meth.locks = false) (n : Nat)  (v0 : Int32)  : ∀ (k : Nat) (v1 : Int32) (z : Int32), l_LB_sharedWithTen_3 n v0 k v1 = some z → ∀ (ls : Array Slot), lv_has ls 2 [(0, .int v0), (1, .int v1)] → W p l e (rL 5) s m args below meth c s.heap [] 0 0 (MQ below (fun _ st oc t => oc = .returned (some (.int z)) ∧ t.heap = st.heap) args s 0 0 (fun _ => False)) (F0 m 3 ls []) := by
  intro k
  induction k with
  | zero => intro v1 z hf; exact absurd hf (by unfold l_LB_sharedWithTen_3; exact fun h9 => by cases h9)
  | succ k ih =>
    intro v1 z hf ls hl
    unfold l_LB_sharedWithTen_3 at hf
    refine lv_iload_n hx hb d_LB_sharedWithTen_3 rfl (lv_at hl 1 rfl) ?_
    refine lv_iconst (v := 1) hx hb d_LB_sharedWithTen_4 (by decide) ?_
    refine lv_icmp_le (tgt := 29) hx hb d_LB_sharedWithTen_5 (by decide) (fun hc => ?_) (fun hc => ?_)
    · have hf := op_t hc hf
      refine lv_iconst (v := 1) hx hb d_LB_sharedWithTen_29 (by decide) ?_
      obtain rfl := op_i1 hf
      exact rt_si hx hb hr hlk rfl d_LB_sharedWithTen_30
    · have hf := op_f hc hf
      refine lv_bipush (v := 10) hx hb d_LB_sharedWithTen_8 (by decide) ?_
      refine lv_iload_n hx hb d_LB_sharedWithTen_10 rfl (lv_at hl 1 rfl) ?_
      obtain ⟨h1, hf⟩ := op_if hf
      refine lv_irem hx hb d_LB_sharedWithTen_11 h1 ?_
      refine lv_if_ne (tgt := 23) hx hb d_LB_sharedWithTen_12 (by decide) (fun hc => ?_) (fun hc => ?_)
      · have hf := op_f hc hf
        refine lv_iinc (v := (v1 + (-1))) (lv' := [(1, .int (v1 + (-1))), (0, .int v0)]) hx hb d_LB_sharedWithTen_23 hl (k := 1) rfl rfl (by decide) rfl (fun ls hl => ?_)
        refine lv_goto (tgt := 3) hx hb d_LB_sharedWithTen_26 (by decide) ?_
        exact ih (v1 + (-1)) _ hf ls (lv_sub hl [1, 0] rfl)
      · have hf := op_t hc hf
        refine lv_iload_n hx hb d_LB_sharedWithTen_15 rfl (lv_at hl 0 rfl) ?_
        refine lv_iload_n hx hb d_LB_sharedWithTen_16 rfl (lv_at hl 1 rfl) ?_
        obtain ⟨h2, hf⟩ := op_if hf
        refine lv_irem hx hb d_LB_sharedWithTen_17 h2 ?_
        refine lv_if_ne (tgt := 23) hx hb d_LB_sharedWithTen_18 (by decide) (fun hc => ?_) (fun hc => ?_)
        · have hf := op_f hc hf
          refine lv_iinc (v := (v1 + (-1))) (lv' := [(1, .int (v1 + (-1))), (0, .int v0)]) hx hb d_LB_sharedWithTen_23 hl (k := 1) rfl rfl (by decide) rfl (fun ls hl => ?_)
          refine lv_goto (tgt := 3) hx hb d_LB_sharedWithTen_26 (by decide) ?_
          exact ih (v1 + (-1)) _ hf ls (lv_sub hl [1, 0] rfl)
        · have hf := op_t hc hf
          refine lv_iload_n hx hb d_LB_sharedWithTen_21 rfl (lv_at hl 1 rfl) ?_
          obtain rfl := op_i1 hf
          exact rt_si hx hb hr hlk rfl d_LB_sharedWithTen_22
def p_LB_sharedWithTen (n : Nat) (v0 : Int32)  : Option (Int32) := l_LB_sharedWithTen_3 n v0 n 10
set_option maxHeartbeats 4000000 in
theorem c_LB_sharedWithTen (l : Launch) (n : Nat) (v0 : Int32)   : MSi l y_LB_sharedWithTen b_LB_sharedWithTen 2 .int (rL 5) [.int v0] (p_LB_sharedWithTen n v0 ) := by
  refine en_si (by decide) (Nat.le_of_ble_eq_true rfl) ?_
  intro z hf p e s m args below meth c ls hx hb hml hown hT hr hlk hl
  have hl : lv_has ls 2 [(0, .int v0)] := hl
  unfold p_LB_sharedWithTen at hf
  refine lv_bipush (v := 10) hx hb d_LB_sharedWithTen_0 (by decide) ?_
  refine lv_istore_n (lv' := [(1, .int 10), (0, .int v0)]) hx hb d_LB_sharedWithTen_2 rfl hl (by decide) rfl (fun ls hl => ?_)
  exact wl_LB_sharedWithTen_3 hx hb hml hown hT hr hlk n v0 n 10 _ hf ls (lv_sub hl [1, 0] rfl)
theorem hd_LB_refresh : y_LB_refresh.cls ≠ "java/lang/invoke/MethodHandle" ∧ y_LB_refresh.cls ≠ "java/lang/invoke/VarHandle" ∧ (parseMethodDescriptor y_LB_refresh.desc).map (fun d => d.parameters.length) = some 0 := by decide +kernel
theorem d_LB_refresh_0 : decode b_LB_refresh 0 = .ok (.aload_n 0, 1) := by decide +kernel
theorem d_LB_refresh_1 : decode b_LB_refresh 1 = .ok (.getfield 41, 3) := by decide +kernel
theorem d_LB_refresh_4 : decode b_LB_refresh 4 = .ok (.ifCond .ne 4, 3) := by decide +kernel
theorem d_LB_refresh_7 : decode b_LB_refresh 7 = .ok (.return_, 1) := by decide +kernel
theorem d_LB_refresh_8 : decode b_LB_refresh 8 = .ok (.aload_n 0, 1) := by decide +kernel
theorem d_LB_refresh_9 : decode b_LB_refresh 9 = .ok (.getfield 28, 3) := by decide +kernel
theorem d_LB_refresh_12 : decode b_LB_refresh 12 = .ok (.aload_n 0, 1) := by decide +kernel
theorem d_LB_refresh_13 : decode b_LB_refresh 13 = .ok (.getfield 12, 3) := by decide +kernel
theorem d_LB_refresh_16 : decode b_LB_refresh 16 = .ok (.invokevirtual 240, 3) := by decide +kernel
theorem d_LB_refresh_19 : decode b_LB_refresh 19 = .ok (.aload_n 0, 1) := by decide +kernel
theorem d_LB_refresh_20 : decode b_LB_refresh 20 = .ok (.iconst 0, 1) := by decide +kernel
theorem d_LB_refresh_21 : decode b_LB_refresh 21 = .ok (.putfield 41, 3) := by decide +kernel
theorem d_LB_refresh_24 : decode b_LB_refresh 24 = .ok (.return_, 1) := by decide +kernel
def p_LB_refresh (n : Nat) (E : PE)  (F : Nat → Nat → Int32) (G : Nat → Nat → Int32) (P : Nat → Nat → Option Nat) (N : Nat → Nat) : Option (CU) := (if (F 0 6) = 0 then some (F, G, P, N) else (p_Go_layFor_ad1 n E F G P N).bind fun (F3, G4, P5, N6) => some ((upR F3 0 6 0), G4, P5, N6))
set_option maxHeartbeats 4000000 in
theorem c_LB_refresh (l : Launch) (n : Nat) (E : PE)  (F : Nat → Nat → Int32) (G : Nat → Nat → Int32) (P : Nat → Nat → Option Nat) (N : Nat → Nat)  : CMv l y_LB_refresh b_LB_refresh 1 (rL 15) E (fun ad => [.ref (ad 0)]) F G P N (p_LB_refresh n E F G P N) := by
  refine en_cv (by decide) (fun _ => Nat.le_of_ble_eq_true rfl) ?_
  intro z hf p e s m args below meth c dC dI ad cI cZ cW cJ A adK adV ls C hA h hr hlk hl
  have hl : lv_has ls 1 [(0, .ref (ad 0))] := hl
  unfold p_LB_refresh at hf
  obtain ⟨hx, hb, hml, hown, hT, hK, hTS, hTR, hpS, hi⟩ := id C
  refine lv_aload_n hx hb d_LB_refresh_0 rfl (lv_at hl 0 rfl) ?_
  refine cg_0_6 hx hb hT hown hK h.1 fl_LB_41 d_LB_refresh_1 ?_
  refine lv_if_ne (tgt := 8) hx hb d_LB_refresh_4 (by decide) (fun hc => ?_) (fun hc => ?_)
  · have hf := op_f hc hf
    refine lv_aload_n hx hb d_LB_refresh_8 rfl (lv_at hl 0 rfl) ?_
    refine cg_0_4 hx hb hT hown hK h.1 fl_LB_28 d_LB_refresh_9 ?_
    refine lv_aload_n hx hb d_LB_refresh_12 rfl (lv_at hl 0 rfl) ?_
    refine cg_0_0 hx hb hT hown hK h.1 fl_LB_12 d_LB_refresh_13 ?_
    obtain ⟨⟨F3, G4, P5, N6⟩, hc1, hf⟩ := op_bind hf
    try dsimp only at hf
    refine kx_v (C0 := R_Go) (b0 := ad 3) (rest := []) C h hA rfl (va_recv hK h.1 (ci := 1) (q0 := 3) rfl rfl) (c_Go_layFor_ad1 l n E  F G P N) hc1 (cbW 1 hT cd_Go_layFor rfl rfl ini_Go ml_LB_240 hd_Go_layFor ⟨Nat.le_of_ble_eq_true rfl, Nat.le_of_ble_eq_true rfl⟩) im_Go_layFor se_Go_Go_layFor__Go_layFor rfl hl.1 rfl (Nat.le_of_ble_eq_true rfl) d_LB_refresh_16 ⟨Nat.zero_le _, Nat.zero_le _⟩ (fun H locs h => ?_)
    refine lv_aload_n hx hb d_LB_refresh_19 rfl (lv_at hl 0 rfl) ?_
    refine lv_iconst (v := 0) hx hb d_LB_refresh_20 (by decide) ?_
    refine cp_0_6 hx hb hT hown hK h (by decide) fl_LB_41 d_LB_refresh_21 (fun H locs h => ?_)
    exact rt_cv C h hr hlk hf d_LB_refresh_24
  · have hf := op_t hc hf
    exact rt_cv C h hr hlk hf d_LB_refresh_7
theorem hd_LB_leastFor : y_LB_leastFor.cls ≠ "java/lang/invoke/MethodHandle" ∧ y_LB_leastFor.cls ≠ "java/lang/invoke/VarHandle" ∧ (parseMethodDescriptor y_LB_leastFor.desc).map (fun d => d.parameters.length) = some 2 := by decide +kernel
theorem d_LB_leastFor_0 : decode b_LB_leastFor 0 = .ok (.aload_n 0, 1) := by decide +kernel
theorem d_LB_leastFor_1 : decode b_LB_leastFor 1 = .ok (.getfield 37, 3) := by decide +kernel
theorem d_LB_leastFor_4 : decode b_LB_leastFor 4 = .ok (.iload_n 1, 1) := by decide +kernel
theorem d_LB_leastFor_5 : decode b_LB_leastFor 5 = .ok (.iload_n 2, 1) := by decide +kernel
theorem d_LB_leastFor_6 : decode b_LB_leastFor 6 = .ok (.iconst 0, 1) := by decide +kernel
theorem d_LB_leastFor_7 : decode b_LB_leastFor 7 = .ok (.invokevirtual 142, 3) := by decide +kernel
theorem d_LB_leastFor_10 : decode b_LB_leastFor 10 = .ok (.aload_n 0, 1) := by decide +kernel
theorem d_LB_leastFor_11 : decode b_LB_leastFor 11 = .ok (.getfield 37, 3) := by decide +kernel
theorem d_LB_leastFor_14 : decode b_LB_leastFor 14 = .ok (.aload_n 0, 1) := by decide +kernel
theorem d_LB_leastFor_15 : decode b_LB_leastFor 15 = .ok (.getfield 12, 3) := by decide +kernel
theorem d_LB_leastFor_18 : decode b_LB_leastFor 18 = .ok (.invokevirtual 146, 3) := by decide +kernel
theorem d_LB_leastFor_21 : decode b_LB_leastFor 21 = .ok (.invokevirtual 149, 3) := by decide +kernel
theorem d_LB_leastFor_24 : decode b_LB_leastFor 24 = .ok (.ireturn, 1) := by decide +kernel
def p_LB_leastFor (n : Nat) (E : PE) (v1 : Int32) (v2 : Int32) (F : Nat → Nat → Int32) (G : Nat → Nat → Int32) (P : Nat → Nat → Option Nat) (N : Nat → Nat) : Option (Int32 × CU) := (p_Se_measureTo n E v1 v2 0 F G P N).bind fun (F3, G4, P5, N6) => (p_St_place n E F3 G4 P5 N6 ).bind fun x8 => (p_Se_measureAt n E F3 G4 P5 N6 x8).bind fun x10 => some (x10, F3, G4, P5, N6)
set_option maxHeartbeats 4000000 in
theorem c_LB_leastFor (l : Launch) (n : Nat) (E : PE) (v1 : Int32) (v2 : Int32) (F : Nat → Nat → Int32) (G : Nat → Nat → Int32) (P : Nat → Nat → Option Nat) (N : Nat → Nat)  : CMi l y_LB_leastFor b_LB_leastFor 3 .int (rL 9) E (fun ad => [.ref (ad 0), .int v1, .int v2]) F G P N (p_LB_leastFor n E v1 v2 F G P N) := by
  refine en_ci (by decide) (fun _ => Nat.le_of_ble_eq_true rfl) ?_
  intro z hf p e s m args below meth c dC dI ad cI cZ cW cJ A adK adV ls C hA h hr hlk hl
  have hl : lv_has ls 3 [(0, .ref (ad 0)), (1, .int v1), (2, .int v2)] := hl
  unfold p_LB_leastFor at hf
  obtain ⟨hx, hb, hml, hown, hT, hK, hTS, hTR, hpS, hi⟩ := id C
  refine lv_aload_n hx hb d_LB_leastFor_0 rfl (lv_at hl 0 rfl) ?_
  refine cg_0_5 hx hb hT hown hK h.1 fl_LB_37 d_LB_leastFor_1 ?_
  refine lv_iload_n hx hb d_LB_leastFor_4 rfl (lv_at hl 1 rfl) ?_
  refine lv_iload_n hx hb d_LB_leastFor_5 rfl (lv_at hl 2 rfl) ?_
  refine lv_iconst (v := 0) hx hb d_LB_leastFor_6 (by decide) ?_
  obtain ⟨⟨F3, G4, P5, N6⟩, hc1, hf⟩ := op_bind hf
  try dsimp only at hf
  refine kx_v (C0 := R_Se) (b0 := ad 4) (rest := []) C h hA rfl (va_recv hK h.1 (ci := 6) (q0 := 4) rfl rfl) (c_Se_measureTo l n E v1 v2 0 F G P N) hc1 (cbW 3 hT cd_Se_measureTo rfl rfl ini_Se ml_LB_142 hd_Se_measureTo ⟨Nat.le_of_ble_eq_true rfl, Nat.le_of_ble_eq_true rfl⟩) im_Se_measureTo se_Se_Se_measureTo__Se_measureTo rfl hl.1 rfl (Nat.le_of_ble_eq_true rfl) d_LB_leastFor_7 ⟨Nat.zero_le _, Nat.zero_le _⟩ (fun H locs h => ?_)
  refine lv_aload_n hx hb d_LB_leastFor_10 rfl (lv_at hl 0 rfl) ?_
  refine cg_0_5 hx hb hT hown hK h.1 fl_LB_37 d_LB_leastFor_11 ?_
  refine lv_aload_n hx hb d_LB_leastFor_14 rfl (lv_at hl 0 rfl) ?_
  refine cg_0_0 hx hb hT hown hK h.1 fl_LB_12 d_LB_leastFor_15 ?_
  obtain ⟨x8, hc7, hf⟩ := op_bind hf
  refine kr_i (C := R_St) (b0 := ad 1) (rest := [.ref (ad 4)]) hx hb hml hown hT cB_bl (cB_to hK h.1 (cpS hpS h) hi) (va_recv hK h.1 (ci := 7) (q0 := 1) rfl rfl) (c_St_place l n E F3 G4 P5 N6 dC dI ad cI cZ cW cJ  _ hc7) (cbW 0 hT cd_St_place rfl rfl ini_St ml_LB_146 hd_St_place ⟨Nat.le_of_ble_eq_true rfl, Nat.le_of_ble_eq_true rfl⟩) im_St_place se_St_St_place__St_place rfl hl.1 rfl (Nat.le_of_ble_eq_true rfl) d_LB_leastFor_18 ⟨Nat.zero_le _, Nat.zero_le _⟩ ?_
  obtain ⟨x10, hc9, hf⟩ := op_bind hf
  refine kr_i (C := R_Se) (b0 := ad 4) (rest := []) hx hb hml hown hT cB_bl (cB_to hK h.1 (cpS hpS h) hi) (va_recv hK h.1 (ci := 6) (q0 := 4) rfl rfl) (c_Se_measureAt l n E F3 G4 P5 N6 dC dI ad cI cZ cW cJ x8 _ hc9) (cbW 1 hT cd_Se_measureAt rfl rfl ini_Se ml_LB_149 hd_Se_measureAt ⟨Nat.le_of_ble_eq_true rfl, Nat.le_of_ble_eq_true rfl⟩) im_Se_measureAt se_Se_Se_measureAt__Se_measureAt rfl hl.1 rfl (Nat.le_of_ble_eq_true rfl) d_LB_leastFor_21 ⟨Nat.zero_le _, Nat.zero_le _⟩ ?_
  exact rt_ci C h hr hlk hf rfl d_LB_leastFor_24
theorem hd_LB_feed : y_LB_feed.cls ≠ "java/lang/invoke/MethodHandle" ∧ y_LB_feed.cls ≠ "java/lang/invoke/VarHandle" ∧ (parseMethodDescriptor y_LB_feed.desc).map (fun d => d.parameters.length) = some 1 := by decide +kernel
theorem d_LB_feed_0 : decode b_LB_feed 0 = .ok (.iload_n 1, 1) := by decide +kernel
theorem d_LB_feed_1 : decode b_LB_feed 1 = .ok (.ifCond .lt 9, 3) := by decide +kernel
theorem d_LB_feed_4 : decode b_LB_feed 4 = .ok (.iload_n 1, 1) := by decide +kernel
theorem d_LB_feed_5 : decode b_LB_feed 5 = .ok (.bipush 127, 2) := by decide +kernel
theorem d_LB_feed_7 : decode b_LB_feed 7 = .ok (.if_icmp .le 6, 3) := by decide +kernel
theorem d_LB_feed_10 : decode b_LB_feed 10 = .ok (.bipush (-2), 2) := by decide +kernel
theorem d_LB_feed_12 : decode b_LB_feed 12 = .ok (.ireturn, 1) := by decide +kernel
theorem d_LB_feed_13 : decode b_LB_feed 13 = .ok (.aload_n 0, 1) := by decide +kernel
theorem d_LB_feed_14 : decode b_LB_feed 14 = .ok (.getfield 12, 3) := by decide +kernel
theorem d_LB_feed_17 : decode b_LB_feed 17 = .ok (.getfield 45, 3) := by decide +kernel
theorem d_LB_feed_20 : decode b_LB_feed 20 = .ok (.bipush 100, 2) := by decide +kernel
theorem d_LB_feed_22 : decode b_LB_feed 22 = .ok (.if_icmp .lt 6, 3) := by decide +kernel
theorem d_LB_feed_25 : decode b_LB_feed 25 = .ok (.bipush (-4), 2) := by decide +kernel
theorem d_LB_feed_27 : decode b_LB_feed 27 = .ok (.ireturn, 1) := by decide +kernel
theorem d_LB_feed_28 : decode b_LB_feed 28 = .ok (.aload_n 0, 1) := by decide +kernel
theorem d_LB_feed_29 : decode b_LB_feed 29 = .ok (.getfield 12, 3) := by decide +kernel
theorem d_LB_feed_32 : decode b_LB_feed 32 = .ok (.getfield 49, 3) := by decide +kernel
theorem d_LB_feed_35 : decode b_LB_feed 35 = .ok (.aload_n 0, 1) := by decide +kernel
theorem d_LB_feed_36 : decode b_LB_feed 36 = .ok (.getfield 12, 3) := by decide +kernel
theorem d_LB_feed_39 : decode b_LB_feed 39 = .ok (.getfield 45, 3) := by decide +kernel
theorem d_LB_feed_42 : decode b_LB_feed 42 = .ok (.iload_n 1, 1) := by decide +kernel
theorem d_LB_feed_43 : decode b_LB_feed 43 = .ok (.iastore, 1) := by decide +kernel
theorem d_LB_feed_44 : decode b_LB_feed 44 = .ok (.aload_n 0, 1) := by decide +kernel
theorem d_LB_feed_45 : decode b_LB_feed 45 = .ok (.getfield 12, 3) := by decide +kernel
theorem d_LB_feed_48 : decode b_LB_feed 48 = .ok (.dup, 1) := by decide +kernel
theorem d_LB_feed_49 : decode b_LB_feed 49 = .ok (.getfield 45, 3) := by decide +kernel
theorem d_LB_feed_52 : decode b_LB_feed 52 = .ok (.iconst 1, 1) := by decide +kernel
theorem d_LB_feed_53 : decode b_LB_feed 53 = .ok (.iadd, 1) := by decide +kernel
theorem d_LB_feed_54 : decode b_LB_feed 54 = .ok (.putfield 45, 3) := by decide +kernel
theorem d_LB_feed_57 : decode b_LB_feed 57 = .ok (.aload_n 0, 1) := by decide +kernel
theorem d_LB_feed_58 : decode b_LB_feed 58 = .ok (.getfield 12, 3) := by decide +kernel
theorem d_LB_feed_61 : decode b_LB_feed 61 = .ok (.getfield 45, 3) := by decide +kernel
theorem d_LB_feed_64 : decode b_LB_feed 64 = .ok (.ireturn, 1) := by decide +kernel
def p_LB_feed (n : Nat) (E : PE) (v1 : Int32) (F : Nat → Nat → Int32) (G : Nat → Nat → Int32) (P : Nat → Nat → Option Nat) (N : Nat → Nat) : Option (Int32 × CU) := (if v1 < 0 then some ((-2), F, G, P, N) else (if v1 ≤ 127 then (if (F 1 1) < 100 then if ix (F 1 1) 100 then some (((upR F 1 1 ((F 1 1) + 1)) 1 1), (upR F 1 1 ((F 1 1) + 1)), (upR G 6 (F 1 1).toNatClampNeg v1), P, N) else none else some ((-4), F, G, P, N)) else some ((-2), F, G, P, N)))
set_option maxHeartbeats 4000000 in
theorem c_LB_feed (l : Launch) (n : Nat) (E : PE) (v1 : Int32) (F : Nat → Nat → Int32) (G : Nat → Nat → Int32) (P : Nat → Nat → Option Nat) (N : Nat → Nat)  : CMi l y_LB_feed b_LB_feed 2 .int (rL 5) E (fun ad => [.ref (ad 0), .int v1]) F G P N (p_LB_feed n E v1 F G P N) := by
  refine en_ci (by decide) (fun _ => Nat.le_of_ble_eq_true rfl) ?_
  intro z hf p e s m args below meth c dC dI ad cI cZ cW cJ A adK adV ls C hA h hr hlk hl
  have hl : lv_has ls 2 [(0, .ref (ad 0)), (1, .int v1)] := hl
  unfold p_LB_feed at hf
  obtain ⟨hx, hb, hml, hown, hT, hK, hTS, hTR, hpS, hi⟩ := id C
  refine lv_iload_n hx hb d_LB_feed_0 rfl (lv_at hl 1 rfl) ?_
  refine lv_if_lt (tgt := 10) hx hb d_LB_feed_1 (by decide) (fun hc => ?_) (fun hc => ?_)
  · have hf := op_t hc hf
    refine lv_bipush (v := (-2)) hx hb d_LB_feed_10 (by decide) ?_
    exact rt_ci C h hr hlk hf rfl d_LB_feed_12
  · have hf := op_f hc hf
    refine lv_iload_n hx hb d_LB_feed_4 rfl (lv_at hl 1 rfl) ?_
    refine lv_bipush (v := 127) hx hb d_LB_feed_5 (by decide) ?_
    refine lv_icmp_le (tgt := 13) hx hb d_LB_feed_7 (by decide) (fun hc => ?_) (fun hc => ?_)
    · have hf := op_t hc hf
      refine lv_aload_n hx hb d_LB_feed_13 rfl (lv_at hl 0 rfl) ?_
      refine cg_0_0 hx hb hT hown hK h.1 fl_LB_12 d_LB_feed_14 ?_
      refine cg_1_1 hx hb hT hown hK h.1 fl_LB_45 d_LB_feed_17 ?_
      refine lv_bipush (v := 100) hx hb d_LB_feed_20 (by decide) ?_
      refine lv_icmp_lt (tgt := 28) hx hb d_LB_feed_22 (by decide) (fun hc => ?_) (fun hc => ?_)
      · have hf := op_t hc hf
        refine lv_aload_n hx hb d_LB_feed_28 rfl (lv_at hl 0 rfl) ?_
        refine cg_0_0 hx hb hT hown hK h.1 fl_LB_12 d_LB_feed_29 ?_
        refine cg_1_0 hx hb hT hown hK h.1 fl_LB_49 d_LB_feed_32 ?_
        refine lv_aload_n hx hb d_LB_feed_35 rfl (lv_at hl 0 rfl) ?_
        refine cg_0_0 hx hb hT hown hK h.1 fl_LB_12 d_LB_feed_36 ?_
        refine cg_1_1 hx hb hT hown hK h.1 fl_LB_45 d_LB_feed_39 ?_
        refine lv_iload_n hx hb d_LB_feed_42 rfl (lv_at hl 1 rfl) ?_
        obtain ⟨h1, hf⟩ := op_if hf
        refine cs_6 hx hb hK h rfl h1 d_LB_feed_43 (fun H locs h => ?_)
        refine lv_aload_n hx hb d_LB_feed_44 rfl (lv_at hl 0 rfl) ?_
        refine cg_0_0 hx hb hT hown hK h.1 fl_LB_12 d_LB_feed_45 ?_
        refine lv_dup hx hb d_LB_feed_48 rfl ?_
        refine cg_1_1 hx hb hT hown hK h.1 fl_LB_45 d_LB_feed_49 ?_
        refine lv_iconst (v := 1) hx hb d_LB_feed_52 (by decide) ?_
        refine lv_iadd hx hb d_LB_feed_53 ?_
        refine cp_1_1 hx hb hT hown hK h fl_LB_45 d_LB_feed_54 (fun H locs h => ?_)
        refine lv_aload_n hx hb d_LB_feed_57 rfl (lv_at hl 0 rfl) ?_
        refine cg_0_0 hx hb hT hown hK h.1 fl_LB_12 d_LB_feed_58 ?_
        refine cg_1_1 hx hb hT hown hK h.1 fl_LB_45 d_LB_feed_61 ?_
        exact rt_ci C h hr hlk hf rfl d_LB_feed_64
      · have hf := op_f hc hf
        refine lv_bipush (v := (-4)) hx hb d_LB_feed_25 (by decide) ?_
        exact rt_ci C h hr hlk hf rfl d_LB_feed_27
    · have hf := op_f hc hf
      refine lv_bipush (v := (-2)) hx hb d_LB_feed_10 (by decide) ?_
      exact rt_ci C h hr hlk hf rfl d_LB_feed_12
theorem hd_LB_of : y_LB_of.cls ≠ "java/lang/invoke/MethodHandle" ∧ y_LB_of.cls ≠ "java/lang/invoke/VarHandle" ∧ (parseMethodDescriptor y_LB_of.desc).map (fun d => d.parameters.length) = some 2 := by decide +kernel
theorem d_LB_of_0 : decode b_LB_of 0 = .ok (.aload_n 0, 1) := by decide +kernel
theorem d_LB_of_1 : decode b_LB_of 1 = .ok (.getfield 12, 3) := by decide +kernel
theorem d_LB_of_4 : decode b_LB_of 4 = .ok (.iload_n 1, 1) := by decide +kernel
theorem d_LB_of_5 : decode b_LB_of 5 = .ok (.invokevirtual 81, 3) := by decide +kernel
theorem d_LB_of_8 : decode b_LB_of 8 = .ok (.astore_n 3, 1) := by decide +kernel
theorem d_LB_of_9 : decode b_LB_of 9 = .ok (.aload_n 3, 1) := by decide +kernel
theorem d_LB_of_10 : decode b_LB_of 10 = .ok (.ifnonnull 5, 3) := by decide +kernel
theorem d_LB_of_13 : decode b_LB_of 13 = .ok (.iconst (-1), 1) := by decide +kernel
theorem d_LB_of_14 : decode b_LB_of 14 = .ok (.ireturn, 1) := by decide +kernel
theorem d_LB_of_15 : decode b_LB_of 15 = .ok (.iload_n 2, 1) := by decide +kernel
theorem d_LB_of_16 : decode b_LB_of 16 = .ok (.tableswitch 71 0 4 #[36, 41, 46, 51, 56], 36) := by decide +kernel
theorem d_LB_of_52 : decode b_LB_of 52 = .ok (.aload_n 3, 1) := by decide +kernel
theorem d_LB_of_53 : decode b_LB_of 53 = .ok (.getfield 85, 3) := by decide +kernel
theorem d_LB_of_56 : decode b_LB_of 56 = .ok (.ireturn, 1) := by decide +kernel
theorem d_LB_of_57 : decode b_LB_of 57 = .ok (.aload_n 3, 1) := by decide +kernel
theorem d_LB_of_58 : decode b_LB_of 58 = .ok (.getfield 88, 3) := by decide +kernel
theorem d_LB_of_61 : decode b_LB_of 61 = .ok (.ireturn, 1) := by decide +kernel
theorem d_LB_of_62 : decode b_LB_of 62 = .ok (.aload_n 3, 1) := by decide +kernel
theorem d_LB_of_63 : decode b_LB_of 63 = .ok (.getfield 91, 3) := by decide +kernel
theorem d_LB_of_66 : decode b_LB_of 66 = .ok (.ireturn, 1) := by decide +kernel
theorem d_LB_of_67 : decode b_LB_of 67 = .ok (.aload_n 3, 1) := by decide +kernel
theorem d_LB_of_68 : decode b_LB_of 68 = .ok (.getfield 94, 3) := by decide +kernel
theorem d_LB_of_71 : decode b_LB_of 71 = .ok (.ireturn, 1) := by decide +kernel
theorem d_LB_of_72 : decode b_LB_of 72 = .ok (.aload_n 0, 1) := by decide +kernel
theorem d_LB_of_73 : decode b_LB_of 73 = .ok (.getfield 12, 3) := by decide +kernel
theorem d_LB_of_76 : decode b_LB_of 76 = .ok (.getfield 97, 3) := by decide +kernel
theorem d_LB_of_79 : decode b_LB_of 79 = .ok (.aload_n 3, 1) := by decide +kernel
theorem d_LB_of_80 : decode b_LB_of 80 = .ok (.getfield 100, 3) := by decide +kernel
theorem d_LB_of_83 : decode b_LB_of 83 = .ok (.ishr, 1) := by decide +kernel
theorem d_LB_of_84 : decode b_LB_of 84 = .ok (.iconst 1, 1) := by decide +kernel
theorem d_LB_of_85 : decode b_LB_of 85 = .ok (.iand, 1) := by decide +kernel
theorem d_LB_of_86 : decode b_LB_of 86 = .ok (.ireturn, 1) := by decide +kernel
theorem d_LB_of_87 : decode b_LB_of 87 = .ok (.iconst (-1), 1) := by decide +kernel
theorem d_LB_of_88 : decode b_LB_of 88 = .ok (.ireturn, 1) := by decide +kernel
def p_LB_of (n : Nat) (E : PE) (F : Nat → Nat → Int32) (G : Nat → Nat → Int32) (P : Nat → Nat → Option Nat) (N : Nat → Nat) (v1 : Int32) (v2 : Int32)  : Option (Int32) := (p_St_walker n E F G P N v1).bind fun x2 => (Option.elim x2 (some (-1)) (fun a3 => (if v2 = 0 then if eV E a3 = true then some (eD E a3 0) else none else if v2 = 1 then if eV E a3 = true then some (eD E a3 2) else none else if v2 = 2 then if eV E a3 = true then some (eD E a3 3) else none else if v2 = 3 then if eV E a3 = true then some (eD E a3 4) else none else if v2 = 4 then if eV E a3 = true then some ((((F 1 6) >>> ((eD E a3 1) &&& 31)) &&& 1)) else none else some (-1))))
set_option maxHeartbeats 4000000 in
theorem c_LB_of (l : Launch) (n : Nat) (E : PE) (F : Nat → Nat → Int32) (G : Nat → Nat → Int32) (P : Nat → Nat → Option Nat) (N : Nat → Nat) (dC : Nat → ClassId) (dI : Nat → Nat → Nat) (ad : Nat → Nat) (cI cZ cW cJ : ClassId) (v1 : Int32) (v2 : Int32)   : ROi l y_LB_of b_LB_of 4 (.int) (rL 6) (cB dC dI ad cI cZ cW cJ E F G P N) [.ref (ad 0), .int v1, .int v2] (p_LB_of n E F G P N v1 v2 ) := by
  refine en_roi (by decide) (Nat.le_of_ble_eq_true rfl) ?_
  intro z hf p e s m args below meth c ls hx hb hml hown hT hr hlk hB hl
  obtain ⟨hK, hP, hp, hi⟩ := hB
  have hl : lv_has ls 4 [(0, .ref (ad 0)), (1, .int v1), (2, .int v2)] := hl
  unfold p_LB_of at hf
  refine lv_aload_n hx hb d_LB_of_0 rfl (lv_at hl 0 rfl) ?_
  refine cg_0_0 hx hb hT hown hK hP fl_LB_12 d_LB_of_1 ?_
  refine lv_iload_n hx hb d_LB_of_4 rfl (lv_at hl 1 rfl) ?_
  obtain ⟨x2, hc1, hf⟩ := op_bind hf
  refine kr_q (C := R_St) (b0 := ad 1) (rest := []) hx hb hml hown hT cB_bl (cB_to hK hP hp hi) (va_recv hK hP (ci := 7) (q0 := 1) rfl rfl) (c_St_walker l n E F G P N dC dI ad cI cZ cW cJ v1 _ hc1) (cbW 1 hT cd_St_walker rfl rfl ini_St ml_LB_81 hd_St_walker ⟨Nat.le_of_ble_eq_true rfl, Nat.le_of_ble_eq_true rfl⟩) im_St_walker se_St_St_walker__St_walker rfl hl.1 rfl (Nat.le_of_ble_eq_true rfl) d_LB_of_5 ⟨Nat.zero_le _, Nat.zero_le _⟩ ?_
  cases x2 with
  | none =>
    have hf := op_en hf
    refine lv_astore_nN (lv' := [(3, .null), (0, .ref (ad 0)), (1, .int v1), (2, .int v2)]) hx hb d_LB_of_8 rfl hl (by decide) rfl (fun ls hl => ?_)
    refine lv_aload_nN hx hb d_LB_of_9 rfl (lv_at hl 0 rfl) ?_
    refine lv_ifnonnullN hx hb d_LB_of_10 ?_
    refine lv_iconst (v := (-1)) hx hb d_LB_of_13 (by decide) ?_
    obtain rfl := op_i1 hf
    exact rt_si hx hb hr hlk rfl d_LB_of_14
  | some a3 =>
    have hf := op_es hf
    refine lv_astore_n (lv' := [(3, .ref a3), (0, .ref (ad 0)), (1, .int v1), (2, .int v2)]) hx hb d_LB_of_8 rfl hl (by decide) rfl (fun ls hl => ?_)
    refine lv_aload_n hx hb d_LB_of_9 rfl (lv_at hl 0 rfl) ?_
    refine lv_ifnonnull (tgt := 15) hx hb d_LB_of_10 (by decide) ?_
    refine lv_iload_n hx hb d_LB_of_15 rfl (lv_at hl 3 rfl) ?_
    by_cases hs0 : v2 = 0
    · have hf := op_t hs0 hf
      refine lv_tableIn (tgt := 52) (off := 36) hx hb d_LB_of_16 (by rw [hs0]; decide) (by rw [hs0]; decide) (by rw [hs0]; decide) (by decide) ?_
      refine lv_aload_n hx hb d_LB_of_52 rfl (lv_at hl 0 rfl) ?_
      obtain ⟨h4, hf⟩ := op_if hf
      refine wg_0 hx hb hT hown hK (hp.1 a3 h4).1 (hp.1 a3 h4).2.1 fl_LB_85 (fun _ h9 => h9) d_LB_of_53 ?_
      obtain rfl := op_i1 hf
      exact rt_si hx hb hr hlk rfl d_LB_of_56
    · have hf := op_f hs0 hf
      by_cases hs1 : v2 = 1
      · have hf := op_t hs1 hf
        refine lv_tableIn (tgt := 57) (off := 41) hx hb d_LB_of_16 (by rw [hs1]; decide) (by rw [hs1]; decide) (by rw [hs1]; decide) (by decide) ?_
        refine lv_aload_n hx hb d_LB_of_57 rfl (lv_at hl 0 rfl) ?_
        obtain ⟨h5, hf⟩ := op_if hf
        refine wg_2 hx hb hT hown hK (hp.1 a3 h5).1 (hp.1 a3 h5).2.1 fl_LB_88 (fun _ h9 => h9) d_LB_of_58 ?_
        obtain rfl := op_i1 hf
        exact rt_si hx hb hr hlk rfl d_LB_of_61
      · have hf := op_f hs1 hf
        by_cases hs2 : v2 = 2
        · have hf := op_t hs2 hf
          refine lv_tableIn (tgt := 62) (off := 46) hx hb d_LB_of_16 (by rw [hs2]; decide) (by rw [hs2]; decide) (by rw [hs2]; decide) (by decide) ?_
          refine lv_aload_n hx hb d_LB_of_62 rfl (lv_at hl 0 rfl) ?_
          obtain ⟨h6, hf⟩ := op_if hf
          refine wg_3 hx hb hT hown hK (hp.1 a3 h6).1 (hp.1 a3 h6).2.1 fl_LB_91 (fun _ h9 => h9) d_LB_of_63 ?_
          obtain rfl := op_i1 hf
          exact rt_si hx hb hr hlk rfl d_LB_of_66
        · have hf := op_f hs2 hf
          by_cases hs3 : v2 = 3
          · have hf := op_t hs3 hf
            refine lv_tableIn (tgt := 67) (off := 51) hx hb d_LB_of_16 (by rw [hs3]; decide) (by rw [hs3]; decide) (by rw [hs3]; decide) (by decide) ?_
            refine lv_aload_n hx hb d_LB_of_67 rfl (lv_at hl 0 rfl) ?_
            obtain ⟨h7, hf⟩ := op_if hf
            refine wg_4 hx hb hT hown hK (hp.1 a3 h7).1 (hp.1 a3 h7).2.1 fl_LB_94 (fun _ h9 => h9) d_LB_of_68 ?_
            obtain rfl := op_i1 hf
            exact rt_si hx hb hr hlk rfl d_LB_of_71
          · have hf := op_f hs3 hf
            by_cases hs4 : v2 = 4
            · have hf := op_t hs4 hf
              refine lv_tableIn (tgt := 72) (off := 56) hx hb d_LB_of_16 (by rw [hs4]; decide) (by rw [hs4]; decide) (by rw [hs4]; decide) (by decide) ?_
              refine lv_aload_n hx hb d_LB_of_72 rfl (lv_at hl 1 rfl) ?_
              refine cg_0_0 hx hb hT hown hK hP fl_LB_12 d_LB_of_73 ?_
              refine cg_1_6 hx hb hT hown hK hP fl_LB_97 d_LB_of_76 ?_
              refine lv_aload_n hx hb d_LB_of_79 rfl (lv_at hl 0 rfl) ?_
              obtain ⟨h8, hf⟩ := op_if hf
              refine wg_1 hx hb hT hown hK (hp.1 a3 h8).1 (hp.1 a3 h8).2.1 fl_LB_100 (fun _ h9 => h9) d_LB_of_80 ?_
              refine lv_ishr hx hb d_LB_of_83 ?_
              refine lv_iconst (v := 1) hx hb d_LB_of_84 (by decide) ?_
              refine lv_iand hx hb d_LB_of_85 ?_
              obtain rfl := op_i1 hf
              exact rt_si hx hb hr hlk rfl d_LB_of_86
            · have hf := op_f hs4 hf
              have et0 := tn_ne (v := 0) (by decide) hs0
              have et1 := tn_ne (v := 1) (by decide) hs1
              have et2 := tn_ne (v := 2) (by decide) hs2
              have et3 := tn_ne (v := 3) (by decide) hs3
              have et4 := tn_ne (v := 4) (by decide) hs4
              refine lv_tableOut (tgt := 87) hx hb d_LB_of_16 (by omega) (by decide) ?_
              refine lv_iconst (v := (-1)) hx hb d_LB_of_87 (by decide) ?_
              obtain rfl := op_i1 hf
              exact rt_si hx hb hr hlk rfl d_LB_of_88
theorem hd_LB_told : y_LB_told.cls ≠ "java/lang/invoke/MethodHandle" ∧ y_LB_told.cls ≠ "java/lang/invoke/VarHandle" ∧ (parseMethodDescriptor y_LB_told.desc).map (fun d => d.parameters.length) = some 1 := by decide +kernel
theorem d_LB_told_0 : decode b_LB_told 0 = .ok (.iload_n 1, 1) := by decide +kernel
theorem d_LB_told_1 : decode b_LB_told 1 = .ok (.tableswitch 108 0 6 #[43, 54, 65, 76, 84, 92, 100], 43) := by decide +kernel
theorem d_LB_told_44 : decode b_LB_told 44 = .ok (.aload_n 0, 1) := by decide +kernel
theorem d_LB_told_45 : decode b_LB_told 45 = .ok (.getfield 12, 3) := by decide +kernel
theorem d_LB_told_48 : decode b_LB_told 48 = .ok (.getfield 64, 3) := by decide +kernel
theorem d_LB_told_51 : decode b_LB_told 51 = .ok (.getfield 103, 3) := by decide +kernel
theorem d_LB_told_54 : decode b_LB_told 54 = .ok (.ireturn, 1) := by decide +kernel
theorem d_LB_told_55 : decode b_LB_told 55 = .ok (.aload_n 0, 1) := by decide +kernel
theorem d_LB_told_56 : decode b_LB_told 56 = .ok (.getfield 12, 3) := by decide +kernel
theorem d_LB_told_59 : decode b_LB_told 59 = .ok (.getfield 64, 3) := by decide +kernel
theorem d_LB_told_62 : decode b_LB_told 62 = .ok (.getfield 106, 3) := by decide +kernel
theorem d_LB_told_65 : decode b_LB_told 65 = .ok (.ireturn, 1) := by decide +kernel
theorem d_LB_told_66 : decode b_LB_told 66 = .ok (.aload_n 0, 1) := by decide +kernel
theorem d_LB_told_67 : decode b_LB_told 67 = .ok (.getfield 12, 3) := by decide +kernel
theorem d_LB_told_70 : decode b_LB_told 70 = .ok (.getfield 64, 3) := by decide +kernel
theorem d_LB_told_73 : decode b_LB_told 73 = .ok (.getfield 109, 3) := by decide +kernel
theorem d_LB_told_76 : decode b_LB_told 76 = .ok (.ireturn, 1) := by decide +kernel
theorem d_LB_told_77 : decode b_LB_told 77 = .ok (.aload_n 0, 1) := by decide +kernel
theorem d_LB_told_78 : decode b_LB_told 78 = .ok (.getfield 12, 3) := by decide +kernel
theorem d_LB_told_81 : decode b_LB_told 81 = .ok (.getfield 112, 3) := by decide +kernel
theorem d_LB_told_84 : decode b_LB_told 84 = .ok (.ireturn, 1) := by decide +kernel
theorem d_LB_told_85 : decode b_LB_told 85 = .ok (.aload_n 0, 1) := by decide +kernel
theorem d_LB_told_86 : decode b_LB_told 86 = .ok (.getfield 12, 3) := by decide +kernel
theorem d_LB_told_89 : decode b_LB_told 89 = .ok (.getfield 115, 3) := by decide +kernel
theorem d_LB_told_92 : decode b_LB_told 92 = .ok (.ireturn, 1) := by decide +kernel
theorem d_LB_told_93 : decode b_LB_told 93 = .ok (.aload_n 0, 1) := by decide +kernel
theorem d_LB_told_94 : decode b_LB_told 94 = .ok (.getfield 12, 3) := by decide +kernel
theorem d_LB_told_97 : decode b_LB_told 97 = .ok (.getfield 118, 3) := by decide +kernel
theorem d_LB_told_100 : decode b_LB_told 100 = .ok (.ireturn, 1) := by decide +kernel
theorem d_LB_told_101 : decode b_LB_told 101 = .ok (.aload_n 0, 1) := by decide +kernel
theorem d_LB_told_102 : decode b_LB_told 102 = .ok (.getfield 12, 3) := by decide +kernel
theorem d_LB_told_105 : decode b_LB_told 105 = .ok (.getfield 97, 3) := by decide +kernel
theorem d_LB_told_108 : decode b_LB_told 108 = .ok (.ireturn, 1) := by decide +kernel
theorem d_LB_told_109 : decode b_LB_told 109 = .ok (.iconst (-1), 1) := by decide +kernel
theorem d_LB_told_110 : decode b_LB_told 110 = .ok (.ireturn, 1) := by decide +kernel
def p_LB_told (n : Nat) (E : PE) (F : Nat → Nat → Int32) (G : Nat → Nat → Int32) (P : Nat → Nat → Option Nat) (N : Nat → Nat) (v1 : Int32)  : Option (Int32) := (if v1 = 0 then if eN E (N 1) = true then some (eI E (N 1) 0) else none else if v1 = 1 then if eN E (N 1) = true then some (eI E (N 1) 1) else none else if v1 = 2 then if eN E (N 1) = true then some (eI E (N 1) 2) else none else if v1 = 3 then some (F 1 8) else if v1 = 4 then some (F 1 9) else if v1 = 5 then some (F 1 7) else if v1 = 6 then some (F 1 6) else some (-1))
set_option maxHeartbeats 4000000 in
theorem c_LB_told (l : Launch) (n : Nat) (E : PE) (F : Nat → Nat → Int32) (G : Nat → Nat → Int32) (P : Nat → Nat → Option Nat) (N : Nat → Nat) (dC : Nat → ClassId) (dI : Nat → Nat → Nat) (ad : Nat → Nat) (cI cZ cW cJ : ClassId) (v1 : Int32)   : ROi l y_LB_told b_LB_told 2 (.int) (rL 5) (cB dC dI ad cI cZ cW cJ E F G P N) [.ref (ad 0), .int v1] (p_LB_told n E F G P N v1 ) := by
  refine en_roi (by decide) (Nat.le_of_ble_eq_true rfl) ?_
  intro z hf p e s m args below meth c ls hx hb hml hown hT hr hlk hB hl
  obtain ⟨hK, hP, hp, hi⟩ := hB
  have hl : lv_has ls 2 [(0, .ref (ad 0)), (1, .int v1)] := hl
  unfold p_LB_told at hf
  refine lv_iload_n hx hb d_LB_told_0 rfl (lv_at hl 1 rfl) ?_
  by_cases hs0 : v1 = 0
  · have hf := op_t hs0 hf
    refine lv_tableIn (tgt := 44) (off := 43) hx hb d_LB_told_1 (by rw [hs0]; decide) (by rw [hs0]; decide) (by rw [hs0]; decide) (by decide) ?_
    refine lv_aload_n hx hb d_LB_told_44 rfl (lv_at hl 0 rfl) ?_
    refine cg_0_0 hx hb hT hown hK hP fl_LB_12 d_LB_told_45 ?_
    refine cg_1_2 hx hb hT hown hK hP fl_LB_64 d_LB_told_48 ?_
    obtain ⟨h1, hf⟩ := op_if hf
    refine eg_0 hx hb hT hown hK (hp.2 (N 1) h1).1 fl_LB_103 d_LB_told_51 ?_
    obtain rfl := op_i1 hf
    exact rt_si hx hb hr hlk rfl d_LB_told_54
  · have hf := op_f hs0 hf
    by_cases hs1 : v1 = 1
    · have hf := op_t hs1 hf
      refine lv_tableIn (tgt := 55) (off := 54) hx hb d_LB_told_1 (by rw [hs1]; decide) (by rw [hs1]; decide) (by rw [hs1]; decide) (by decide) ?_
      refine lv_aload_n hx hb d_LB_told_55 rfl (lv_at hl 0 rfl) ?_
      refine cg_0_0 hx hb hT hown hK hP fl_LB_12 d_LB_told_56 ?_
      refine cg_1_2 hx hb hT hown hK hP fl_LB_64 d_LB_told_59 ?_
      obtain ⟨h2, hf⟩ := op_if hf
      refine eg_1 hx hb hT hown hK (hp.2 (N 1) h2).1 fl_LB_106 d_LB_told_62 ?_
      obtain rfl := op_i1 hf
      exact rt_si hx hb hr hlk rfl d_LB_told_65
    · have hf := op_f hs1 hf
      by_cases hs2 : v1 = 2
      · have hf := op_t hs2 hf
        refine lv_tableIn (tgt := 66) (off := 65) hx hb d_LB_told_1 (by rw [hs2]; decide) (by rw [hs2]; decide) (by rw [hs2]; decide) (by decide) ?_
        refine lv_aload_n hx hb d_LB_told_66 rfl (lv_at hl 0 rfl) ?_
        refine cg_0_0 hx hb hT hown hK hP fl_LB_12 d_LB_told_67 ?_
        refine cg_1_2 hx hb hT hown hK hP fl_LB_64 d_LB_told_70 ?_
        obtain ⟨h3, hf⟩ := op_if hf
        refine eg_2 hx hb hT hown hK (hp.2 (N 1) h3).1 fl_LB_109 d_LB_told_73 ?_
        obtain rfl := op_i1 hf
        exact rt_si hx hb hr hlk rfl d_LB_told_76
      · have hf := op_f hs2 hf
        by_cases hs3 : v1 = 3
        · have hf := op_t hs3 hf
          refine lv_tableIn (tgt := 77) (off := 76) hx hb d_LB_told_1 (by rw [hs3]; decide) (by rw [hs3]; decide) (by rw [hs3]; decide) (by decide) ?_
          refine lv_aload_n hx hb d_LB_told_77 rfl (lv_at hl 0 rfl) ?_
          refine cg_0_0 hx hb hT hown hK hP fl_LB_12 d_LB_told_78 ?_
          refine cg_1_8 hx hb hT hown hK hP fl_LB_112 d_LB_told_81 ?_
          obtain rfl := op_i1 hf
          exact rt_si hx hb hr hlk rfl d_LB_told_84
        · have hf := op_f hs3 hf
          by_cases hs4 : v1 = 4
          · have hf := op_t hs4 hf
            refine lv_tableIn (tgt := 85) (off := 84) hx hb d_LB_told_1 (by rw [hs4]; decide) (by rw [hs4]; decide) (by rw [hs4]; decide) (by decide) ?_
            refine lv_aload_n hx hb d_LB_told_85 rfl (lv_at hl 0 rfl) ?_
            refine cg_0_0 hx hb hT hown hK hP fl_LB_12 d_LB_told_86 ?_
            refine cg_1_9 hx hb hT hown hK hP fl_LB_115 d_LB_told_89 ?_
            obtain rfl := op_i1 hf
            exact rt_si hx hb hr hlk rfl d_LB_told_92
          · have hf := op_f hs4 hf
            by_cases hs5 : v1 = 5
            · have hf := op_t hs5 hf
              refine lv_tableIn (tgt := 93) (off := 92) hx hb d_LB_told_1 (by rw [hs5]; decide) (by rw [hs5]; decide) (by rw [hs5]; decide) (by decide) ?_
              refine lv_aload_n hx hb d_LB_told_93 rfl (lv_at hl 0 rfl) ?_
              refine cg_0_0 hx hb hT hown hK hP fl_LB_12 d_LB_told_94 ?_
              refine cg_1_7 hx hb hT hown hK hP fl_LB_118 d_LB_told_97 ?_
              obtain rfl := op_i1 hf
              exact rt_si hx hb hr hlk rfl d_LB_told_100
            · have hf := op_f hs5 hf
              by_cases hs6 : v1 = 6
              · have hf := op_t hs6 hf
                refine lv_tableIn (tgt := 101) (off := 100) hx hb d_LB_told_1 (by rw [hs6]; decide) (by rw [hs6]; decide) (by rw [hs6]; decide) (by decide) ?_
                refine lv_aload_n hx hb d_LB_told_101 rfl (lv_at hl 0 rfl) ?_
                refine cg_0_0 hx hb hT hown hK hP fl_LB_12 d_LB_told_102 ?_
                refine cg_1_6 hx hb hT hown hK hP fl_LB_97 d_LB_told_105 ?_
                obtain rfl := op_i1 hf
                exact rt_si hx hb hr hlk rfl d_LB_told_108
              · have hf := op_f hs6 hf
                have et0 := tn_ne (v := 0) (by decide) hs0
                have et1 := tn_ne (v := 1) (by decide) hs1
                have et2 := tn_ne (v := 2) (by decide) hs2
                have et3 := tn_ne (v := 3) (by decide) hs3
                have et4 := tn_ne (v := 4) (by decide) hs4
                have et5 := tn_ne (v := 5) (by decide) hs5
                have et6 := tn_ne (v := 6) (by decide) hs6
                refine lv_tableOut (tgt := 109) hx hb d_LB_told_1 (by omega) (by decide) ?_
                refine lv_iconst (v := (-1)) hx hb d_LB_told_109 (by decide) ?_
                obtain rfl := op_i1 hf
                exact rt_si hx hb hr hlk rfl d_LB_told_110
theorem hd_LB_going : y_LB_going.cls ≠ "java/lang/invoke/MethodHandle" ∧ y_LB_going.cls ≠ "java/lang/invoke/VarHandle" ∧ (parseMethodDescriptor y_LB_going.desc).map (fun d => d.parameters.length) = some 3 := by decide +kernel
theorem d_LB_going_0 : decode b_LB_going 0 = .ok (.iload_n 2, 1) := by decide +kernel
theorem d_LB_going_1 : decode b_LB_going 1 = .ok (.ifCond .lt 17, 3) := by decide +kernel
theorem d_LB_going_4 : decode b_LB_going 4 = .ok (.iload_n 2, 1) := by decide +kernel
theorem d_LB_going_5 : decode b_LB_going 5 = .ok (.iconst 1, 1) := by decide +kernel
theorem d_LB_going_6 : decode b_LB_going 6 = .ok (.if_icmp .gt 12, 3) := by decide +kernel
theorem d_LB_going_9 : decode b_LB_going 9 = .ok (.iload_n 3, 1) := by decide +kernel
theorem d_LB_going_10 : decode b_LB_going 10 = .ok (.ifCond .lt 8, 3) := by decide +kernel
theorem d_LB_going_13 : decode b_LB_going 13 = .ok (.iload_n 3, 1) := by decide +kernel
theorem d_LB_going_14 : decode b_LB_going 14 = .ok (.iconst 1, 1) := by decide +kernel
theorem d_LB_going_15 : decode b_LB_going 15 = .ok (.if_icmp .le 5, 3) := by decide +kernel
theorem d_LB_going_18 : decode b_LB_going 18 = .ok (.iconst (-1), 1) := by decide +kernel
theorem d_LB_going_19 : decode b_LB_going 19 = .ok (.ireturn, 1) := by decide +kernel
theorem d_LB_going_20 : decode b_LB_going 20 = .ok (.iload_n 1, 1) := by decide +kernel
theorem d_LB_going_21 : decode b_LB_going 21 = .ok (.ifCond .eq 14, 3) := by decide +kernel
theorem d_LB_going_24 : decode b_LB_going 24 = .ok (.aload_n 0, 1) := by decide +kernel
theorem d_LB_going_25 : decode b_LB_going 25 = .ok (.getfield 12, 3) := by decide +kernel
theorem d_LB_going_28 : decode b_LB_going 28 = .ok (.iload_n 1, 1) := by decide +kernel
theorem d_LB_going_29 : decode b_LB_going 29 = .ok (.invokevirtual 121, 3) := by decide +kernel
theorem d_LB_going_32 : decode b_LB_going 32 = .ok (.ifCond .ne 6, 3) := by decide +kernel
theorem d_LB_going_35 : decode b_LB_going 35 = .ok (.bipush (-2), 2) := by decide +kernel
theorem d_LB_going_37 : decode b_LB_going 37 = .ok (.ireturn, 1) := by decide +kernel
theorem d_LB_going_38 : decode b_LB_going 38 = .ok (.aload_n 0, 1) := by decide +kernel
theorem d_LB_going_39 : decode b_LB_going 39 = .ok (.invokevirtual 125, 3) := by decide +kernel
theorem d_LB_going_42 : decode b_LB_going 42 = .ok (.iload_n 3, 1) := by decide +kernel
theorem d_LB_going_43 : decode b_LB_going 43 = .ok (.iconst 1, 1) := by decide +kernel
theorem d_LB_going_44 : decode b_LB_going 44 = .ok (.if_icmp .ne 15, 3) := by decide +kernel
theorem d_LB_going_47 : decode b_LB_going 47 = .ok (.aload_n 0, 1) := by decide +kernel
theorem d_LB_going_48 : decode b_LB_going 48 = .ok (.getfield 28, 3) := by decide +kernel
theorem d_LB_going_51 : decode b_LB_going 51 = .ok (.iload_n 1, 1) := by decide +kernel
theorem d_LB_going_52 : decode b_LB_going 52 = .ok (.iload_n 2, 1) := by decide +kernel
theorem d_LB_going_53 : decode b_LB_going 53 = .ok (.invokevirtual 128, 3) := by decide +kernel
theorem d_LB_going_56 : decode b_LB_going 56 = .ok (.goto 20, 3) := by decide +kernel
theorem d_LB_going_59 : decode b_LB_going 59 = .ok (.aload_n 0, 1) := by decide +kernel
theorem d_LB_going_60 : decode b_LB_going 60 = .ok (.getfield 28, 3) := by decide +kernel
theorem d_LB_going_63 : decode b_LB_going 63 = .ok (.iload_n 1, 1) := by decide +kernel
theorem d_LB_going_64 : decode b_LB_going 64 = .ok (.iload_n 2, 1) := by decide +kernel
theorem d_LB_going_65 : decode b_LB_going 65 = .ok (.invokevirtual 132, 3) := by decide +kernel
theorem d_LB_going_68 : decode b_LB_going 68 = .ok (.ifCond .eq 7, 3) := by decide +kernel
theorem d_LB_going_71 : decode b_LB_going 71 = .ok (.iconst 1, 1) := by decide +kernel
theorem d_LB_going_72 : decode b_LB_going 72 = .ok (.goto 4, 3) := by decide +kernel
theorem d_LB_going_75 : decode b_LB_going 75 = .ok (.iconst 0, 1) := by decide +kernel
theorem d_LB_going_76 : decode b_LB_going 76 = .ok (.ireturn, 1) := by decide +kernel
def p_LB_going (n : Nat) (E : PE) (v1 : Int32) (v2 : Int32) (v3 : Int32) (F : Nat → Nat → Int32) (G : Nat → Nat → Int32) (P : Nat → Nat → Option Nat) (N : Nat → Nat) : Option (Int32 × CU) := (if v2 < 0 then some ((-1), F, G, P, N) else (if 1 < v2 then some ((-1), F, G, P, N) else (if v3 < 0 then some ((-1), F, G, P, N) else (if v3 ≤ 1 then (if v1 = 0 then some ((-2), F, G, P, N) else (p_St_isSet n E F G P N v1).bind fun x2 => (if x2 = 0 then some ((-2), F, G, P, N) else (p_LB_refresh n E F G P N).bind fun (F5, G6, P7, N8) => (if v3 = 1 then (p_Go_minutesOf n E F5 G6 P7 N8 v1 v2).bind fun x14 => some x14 else (p_Go_canBe n E F5 G6 P7 N8 v1 v2).bind fun x12 => (if x12 = 0 then some 0 else some 1) : Option (Int32)).bind fun x10 => some (x10, F5, G6, P7, N8))) else some ((-1), F, G, P, N)))))
set_option maxHeartbeats 4000000 in
theorem c_LB_going (l : Launch) (n : Nat) (E : PE) (v1 : Int32) (v2 : Int32) (v3 : Int32) (F : Nat → Nat → Int32) (G : Nat → Nat → Int32) (P : Nat → Nat → Option Nat) (N : Nat → Nat)  : CMi l y_LB_going b_LB_going 4 .int (rL 16) E (fun ad => [.ref (ad 0), .int v1, .int v2, .int v3]) F G P N (p_LB_going n E v1 v2 v3 F G P N) := by
  refine en_ci (by decide) (fun _ => Nat.le_of_ble_eq_true rfl) ?_
  intro z hf p e s m args below meth c dC dI ad cI cZ cW cJ A adK adV ls C hA h hr hlk hl
  have hl : lv_has ls 4 [(0, .ref (ad 0)), (1, .int v1), (2, .int v2), (3, .int v3)] := hl
  unfold p_LB_going at hf
  obtain ⟨hx, hb, hml, hown, hT, hK, hTS, hTR, hpS, hi⟩ := id C
  refine lv_iload_n hx hb d_LB_going_0 rfl (lv_at hl 2 rfl) ?_
  refine lv_if_lt (tgt := 18) hx hb d_LB_going_1 (by decide) (fun hc => ?_) (fun hc => ?_)
  · have hf := op_t hc hf
    refine lv_iconst (v := (-1)) hx hb d_LB_going_18 (by decide) ?_
    exact rt_ci C h hr hlk hf rfl d_LB_going_19
  · have hf := op_f hc hf
    refine lv_iload_n hx hb d_LB_going_4 rfl (lv_at hl 2 rfl) ?_
    refine lv_iconst (v := 1) hx hb d_LB_going_5 (by decide) ?_
    refine lv_icmp_gt (tgt := 18) hx hb d_LB_going_6 (by decide) (fun hc => ?_) (fun hc => ?_)
    · have hf := op_t hc hf
      refine lv_iconst (v := (-1)) hx hb d_LB_going_18 (by decide) ?_
      exact rt_ci C h hr hlk hf rfl d_LB_going_19
    · have hf := op_f hc hf
      refine lv_iload_n hx hb d_LB_going_9 rfl (lv_at hl 3 rfl) ?_
      refine lv_if_lt (tgt := 18) hx hb d_LB_going_10 (by decide) (fun hc => ?_) (fun hc => ?_)
      · have hf := op_t hc hf
        refine lv_iconst (v := (-1)) hx hb d_LB_going_18 (by decide) ?_
        exact rt_ci C h hr hlk hf rfl d_LB_going_19
      · have hf := op_f hc hf
        refine lv_iload_n hx hb d_LB_going_13 rfl (lv_at hl 3 rfl) ?_
        refine lv_iconst (v := 1) hx hb d_LB_going_14 (by decide) ?_
        refine lv_icmp_le (tgt := 20) hx hb d_LB_going_15 (by decide) (fun hc => ?_) (fun hc => ?_)
        · have hf := op_t hc hf
          refine lv_iload_n hx hb d_LB_going_20 rfl (lv_at hl 1 rfl) ?_
          refine lv_if_eq (tgt := 35) hx hb d_LB_going_21 (by decide) (fun hc => ?_) (fun hc => ?_)
          · have hf := op_t hc hf
            refine lv_bipush (v := (-2)) hx hb d_LB_going_35 (by decide) ?_
            exact rt_ci C h hr hlk hf rfl d_LB_going_37
          · have hf := op_f hc hf
            refine lv_aload_n hx hb d_LB_going_24 rfl (lv_at hl 0 rfl) ?_
            refine cg_0_0 hx hb hT hown hK h.1 fl_LB_12 d_LB_going_25 ?_
            refine lv_iload_n hx hb d_LB_going_28 rfl (lv_at hl 1 rfl) ?_
            obtain ⟨x2, hc1, hf⟩ := op_bind hf
            refine kr_i (C := R_St) (b0 := ad 1) (rest := []) hx hb hml hown hT cB_bl (cB_to hK h.1 (cpS hpS h) hi) (va_recv hK h.1 (ci := 7) (q0 := 1) rfl rfl) (c_St_isSet l n E F G P N dC dI ad cI cZ cW cJ v1 _ hc1) (cbW 1 hT cd_St_isSet rfl rfl ini_St ml_LB_121 hd_St_isSet ⟨Nat.le_of_ble_eq_true rfl, Nat.le_of_ble_eq_true rfl⟩) im_St_isSet se_St_St_isSet__St_isSet rfl hl.1 rfl (Nat.le_of_ble_eq_true rfl) d_LB_going_29 ⟨Nat.zero_le _, Nat.zero_le _⟩ ?_
            refine lv_if_ne (tgt := 38) hx hb d_LB_going_32 (by decide) (fun hc => ?_) (fun hc => ?_)
            · have hf := op_f hc hf
              refine lv_aload_n hx hb d_LB_going_38 rfl (lv_at hl 0 rfl) ?_
              obtain ⟨⟨F5, G6, P7, N8⟩, hc3, hf⟩ := op_bind hf
              try dsimp only at hf
              refine kx_v (C0 := R_LB) (b0 := ad 0) (rest := []) C h hA rfl (va_recv hK h.1 (ci := 11) (q0 := 0) rfl rfl) (c_LB_refresh l n E  F G P N) hc3 (cbW 0 hT cd_LB_refresh rfl rfl ini_LB ml_LB_125 hd_LB_refresh ⟨Nat.le_of_ble_eq_true rfl, Nat.le_of_ble_eq_true rfl⟩) im_LB_refresh sp_LB_refresh rfl hl.1 rfl (Nat.le_of_ble_eq_true rfl) d_LB_going_39 ⟨Nat.zero_le _, Nat.zero_le _⟩ (fun H locs h => ?_)
              refine lv_iload_n hx hb d_LB_going_42 rfl (lv_at hl 3 rfl) ?_
              refine lv_iconst (v := 1) hx hb d_LB_going_43 (by decide) ?_
              obtain ⟨x10, he, hf⟩ := op_bind hf
              have K9 : ∀ (ls : Array Slot), lv_has ls 4 [] → ∀ (H : Heap) (locs : List Loc), cH A s.heap dC dI ad cI cZ cW cJ F5 G6 P7 N8 H locs → W p l e (rL 16) s m args below meth c H locs 0 0 (cQi dC dI ad cI cZ cW cJ A below args s z) (F0 m 76 ls [.int x10]) := by
                intro ls hl H locs h
                exact rt_ci C h hr hlk hf rfl d_LB_going_76
              have hf := he
              refine lv_icmp_ne (tgt := 59) hx hb d_LB_going_44 (by decide) (fun hc => ?_) (fun hc => ?_)
              · have hf := op_f hc hf
                refine lv_aload_n hx hb d_LB_going_59 rfl (lv_at hl 0 rfl) ?_
                refine cg_0_4 hx hb hT hown hK h.1 fl_LB_28 d_LB_going_60 ?_
                refine lv_iload_n hx hb d_LB_going_63 rfl (lv_at hl 1 rfl) ?_
                refine lv_iload_n hx hb d_LB_going_64 rfl (lv_at hl 2 rfl) ?_
                obtain ⟨x12, hc11, hf⟩ := op_bind hf
                refine kr_i (C := R_Go) (b0 := ad 3) (rest := []) hx hb hml hown hT cB_bl (cB_to hK h.1 (cpS hpS h) hi) (va_recv hK h.1 (ci := 1) (q0 := 3) rfl rfl) (c_Go_canBe l n E F5 G6 P7 N8 dC dI ad cI cZ cW cJ v1 v2 _ hc11) (cbW 2 hT cd_Go_canBe rfl rfl ini_Go ml_LB_132 hd_Go_canBe ⟨Nat.le_of_ble_eq_true rfl, Nat.le_of_ble_eq_true rfl⟩) im_Go_canBe se_Go_Go_canBe__Go_canBe rfl hl.1 rfl (Nat.le_of_ble_eq_true rfl) d_LB_going_65 ⟨Nat.zero_le _, Nat.zero_le _⟩ ?_
                refine lv_if_eq (tgt := 75) hx hb d_LB_going_68 (by decide) (fun hc => ?_) (fun hc => ?_)
                · have hf := op_t hc hf
                  refine lv_iconst (v := 0) hx hb d_LB_going_75 (by decide) ?_
                  obtain rfl := op_i1 hf
                  exact K9 ls (lv_sub hl [] rfl) H locs h
                · have hf := op_f hc hf
                  refine lv_iconst (v := 1) hx hb d_LB_going_71 (by decide) ?_
                  refine lv_goto (tgt := 76) hx hb d_LB_going_72 (by decide) ?_
                  obtain rfl := op_i1 hf
                  exact K9 ls (lv_sub hl [] rfl) H locs h
              · have hf := op_t hc hf
                refine lv_aload_n hx hb d_LB_going_47 rfl (lv_at hl 0 rfl) ?_
                refine cg_0_4 hx hb hT hown hK h.1 fl_LB_28 d_LB_going_48 ?_
                refine lv_iload_n hx hb d_LB_going_51 rfl (lv_at hl 1 rfl) ?_
                refine lv_iload_n hx hb d_LB_going_52 rfl (lv_at hl 2 rfl) ?_
                obtain ⟨x14, hc13, hf⟩ := op_bind hf
                refine kr_i (C := R_Go) (b0 := ad 3) (rest := []) hx hb hml hown hT cB_bl (cB_to hK h.1 (cpS hpS h) hi) (va_recv hK h.1 (ci := 1) (q0 := 3) rfl rfl) (c_Go_minutesOf l n E F5 G6 P7 N8 dC dI ad cI cZ cW cJ v1 v2 _ hc13) (cbW 2 hT cd_Go_minutesOf rfl rfl ini_Go ml_LB_128 hd_Go_minutesOf ⟨Nat.le_of_ble_eq_true rfl, Nat.le_of_ble_eq_true rfl⟩) im_Go_minutesOf se_Go_Go_minutesOf__Go_minutesOf rfl hl.1 rfl (Nat.le_of_ble_eq_true rfl) d_LB_going_53 ⟨Nat.zero_le _, Nat.zero_le _⟩ ?_
                refine lv_goto (tgt := 76) hx hb d_LB_going_56 (by decide) ?_
                obtain rfl := op_i1 hf
                exact K9 ls (lv_sub hl [] rfl) H locs h
            · have hf := op_t hc hf
              refine lv_bipush (v := (-2)) hx hb d_LB_going_35 (by decide) ?_
              exact rt_ci C h hr hlk hf rfl d_LB_going_37
        · have hf := op_f hc hf
          refine lv_iconst (v := (-1)) hx hb d_LB_going_18 (by decide) ?_
          exact rt_ci C h hr hlk hf rfl d_LB_going_19
theorem hd_LB_go : y_LB_go.cls ≠ "java/lang/invoke/MethodHandle" ∧ y_LB_go.cls ≠ "java/lang/invoke/VarHandle" ∧ (parseMethodDescriptor y_LB_go.desc).map (fun d => d.parameters.length) = some 1 := by decide +kernel
theorem d_LB_go_0 : decode b_LB_go 0 = .ok (.iload_n 1, 1) := by decide +kernel
theorem d_LB_go_1 : decode b_LB_go 1 = .ok (.ifCond .eq 14, 3) := by decide +kernel
theorem d_LB_go_4 : decode b_LB_go 4 = .ok (.aload_n 0, 1) := by decide +kernel
theorem d_LB_go_5 : decode b_LB_go 5 = .ok (.getfield 12, 3) := by decide +kernel
theorem d_LB_go_8 : decode b_LB_go 8 = .ok (.iload_n 1, 1) := by decide +kernel
theorem d_LB_go_9 : decode b_LB_go 9 = .ok (.invokevirtual 121, 3) := by decide +kernel
theorem d_LB_go_12 : decode b_LB_go 12 = .ok (.ifCond .ne 6, 3) := by decide +kernel
theorem d_LB_go_15 : decode b_LB_go 15 = .ok (.bipush (-2), 2) := by decide +kernel
theorem d_LB_go_17 : decode b_LB_go 17 = .ok (.ireturn, 1) := by decide +kernel
theorem d_LB_go_18 : decode b_LB_go 18 = .ok (.aload_n 0, 1) := by decide +kernel
theorem d_LB_go_19 : decode b_LB_go 19 = .ok (.invokevirtual 125, 3) := by decide +kernel
theorem d_LB_go_22 : decode b_LB_go 22 = .ok (.iload_n 1, 1) := by decide +kernel
theorem d_LB_go_23 : decode b_LB_go 23 = .ok (.aload_n 0, 1) := by decide +kernel
theorem d_LB_go_24 : decode b_LB_go 24 = .ok (.getfield 12, 3) := by decide +kernel
theorem d_LB_go_27 : decode b_LB_go 27 = .ok (.invokevirtual 136, 3) := by decide +kernel
theorem d_LB_go_30 : decode b_LB_go 30 = .ok (.iconst (-1), 1) := by decide +kernel
theorem d_LB_go_31 : decode b_LB_go 31 = .ok (.ixor, 1) := by decide +kernel
theorem d_LB_go_32 : decode b_LB_go 32 = .ok (.iand, 1) := by decide +kernel
theorem d_LB_go_33 : decode b_LB_go 33 = .ok (.ifCond .ne 21, 3) := by decide +kernel
theorem d_LB_go_36 : decode b_LB_go 36 = .ok (.aload_n 0, 1) := by decide +kernel
theorem d_LB_go_37 : decode b_LB_go 37 = .ok (.getfield 28, 3) := by decide +kernel
theorem d_LB_go_40 : decode b_LB_go 40 = .ok (.iload_n 1, 1) := by decide +kernel
theorem d_LB_go_41 : decode b_LB_go 41 = .ok (.aload_n 0, 1) := by decide +kernel
theorem d_LB_go_42 : decode b_LB_go 42 = .ok (.getfield 12, 3) := by decide +kernel
theorem d_LB_go_45 : decode b_LB_go 45 = .ok (.getfield 118, 3) := by decide +kernel
theorem d_LB_go_48 : decode b_LB_go 48 = .ok (.invokevirtual 132, 3) := by decide +kernel
theorem d_LB_go_51 : decode b_LB_go 51 = .ok (.ifCond .ne 6, 3) := by decide +kernel
theorem d_LB_go_54 : decode b_LB_go 54 = .ok (.bipush (-3), 2) := by decide +kernel
theorem d_LB_go_56 : decode b_LB_go 56 = .ok (.ireturn, 1) := by decide +kernel
theorem d_LB_go_57 : decode b_LB_go 57 = .ok (.aload_n 0, 1) := by decide +kernel
theorem d_LB_go_58 : decode b_LB_go 58 = .ok (.getfield 28, 3) := by decide +kernel
theorem d_LB_go_61 : decode b_LB_go 61 = .ok (.iload_n 1, 1) := by decide +kernel
theorem d_LB_go_62 : decode b_LB_go 62 = .ok (.aload_n 0, 1) := by decide +kernel
theorem d_LB_go_63 : decode b_LB_go 63 = .ok (.getfield 12, 3) := by decide +kernel
theorem d_LB_go_66 : decode b_LB_go 66 = .ok (.getfield 118, 3) := by decide +kernel
theorem d_LB_go_69 : decode b_LB_go 69 = .ok (.invokevirtual 128, 3) := by decide +kernel
theorem d_LB_go_72 : decode b_LB_go 72 = .ok (.istore_n 2, 1) := by decide +kernel
theorem d_LB_go_73 : decode b_LB_go 73 = .ok (.aload_n 0, 1) := by decide +kernel
theorem d_LB_go_74 : decode b_LB_go 74 = .ok (.getfield 12, 3) := by decide +kernel
theorem d_LB_go_77 : decode b_LB_go 77 = .ok (.getfield 64, 3) := by decide +kernel
theorem d_LB_go_80 : decode b_LB_go 80 = .ok (.getfield 109, 3) := by decide +kernel
theorem d_LB_go_83 : decode b_LB_go 83 = .ok (.istore_n 3, 1) := by decide +kernel
theorem d_LB_go_84 : decode b_LB_go 84 = .ok (.iload_n 3, 1) := by decide +kernel
theorem d_LB_go_85 : decode b_LB_go 85 = .ok (.ifCond .le 19, 3) := by decide +kernel
theorem d_LB_go_88 : decode b_LB_go 88 = .ok (.aload_n 0, 1) := by decide +kernel
theorem d_LB_go_89 : decode b_LB_go 89 = .ok (.getfield 12, 3) := by decide +kernel
theorem d_LB_go_92 : decode b_LB_go 92 = .ok (.getfield 112, 3) := by decide +kernel
theorem d_LB_go_95 : decode b_LB_go 95 = .ok (.iload_n 2, 1) := by decide +kernel
theorem d_LB_go_96 : decode b_LB_go 96 = .ok (.iadd, 1) := by decide +kernel
theorem d_LB_go_97 : decode b_LB_go 97 = .ok (.iload_n 3, 1) := by decide +kernel
theorem d_LB_go_98 : decode b_LB_go 98 = .ok (.if_icmp .le 6, 3) := by decide +kernel
theorem d_LB_go_101 : decode b_LB_go 101 = .ok (.bipush (-3), 2) := by decide +kernel
theorem d_LB_go_103 : decode b_LB_go 103 = .ok (.ireturn, 1) := by decide +kernel
theorem d_LB_go_104 : decode b_LB_go 104 = .ok (.aload_n 0, 1) := by decide +kernel
theorem d_LB_go_105 : decode b_LB_go 105 = .ok (.getfield 12, 3) := by decide +kernel
theorem d_LB_go_108 : decode b_LB_go 108 = .ok (.dup, 1) := by decide +kernel
theorem d_LB_go_109 : decode b_LB_go 109 = .ok (.getfield 112, 3) := by decide +kernel
theorem d_LB_go_112 : decode b_LB_go 112 = .ok (.iload_n 2, 1) := by decide +kernel
theorem d_LB_go_113 : decode b_LB_go 113 = .ok (.iadd, 1) := by decide +kernel
theorem d_LB_go_114 : decode b_LB_go 114 = .ok (.putfield 112, 3) := by decide +kernel
theorem d_LB_go_117 : decode b_LB_go 117 = .ok (.aload_n 0, 1) := by decide +kernel
theorem d_LB_go_118 : decode b_LB_go 118 = .ok (.getfield 12, 3) := by decide +kernel
theorem d_LB_go_121 : decode b_LB_go 121 = .ok (.dup, 1) := by decide +kernel
theorem d_LB_go_122 : decode b_LB_go 122 = .ok (.getfield 115, 3) := by decide +kernel
theorem d_LB_go_125 : decode b_LB_go 125 = .ok (.iconst 1, 1) := by decide +kernel
theorem d_LB_go_126 : decode b_LB_go 126 = .ok (.iadd, 1) := by decide +kernel
theorem d_LB_go_127 : decode b_LB_go 127 = .ok (.putfield 115, 3) := by decide +kernel
theorem d_LB_go_130 : decode b_LB_go 130 = .ok (.aload_n 0, 1) := by decide +kernel
theorem d_LB_go_131 : decode b_LB_go 131 = .ok (.getfield 12, 3) := by decide +kernel
theorem d_LB_go_134 : decode b_LB_go 134 = .ok (.dup, 1) := by decide +kernel
theorem d_LB_go_135 : decode b_LB_go 135 = .ok (.getfield 97, 3) := by decide +kernel
theorem d_LB_go_138 : decode b_LB_go 138 = .ok (.iload_n 1, 1) := by decide +kernel
theorem d_LB_go_139 : decode b_LB_go 139 = .ok (.ixor, 1) := by decide +kernel
theorem d_LB_go_140 : decode b_LB_go 140 = .ok (.putfield 97, 3) := by decide +kernel
theorem d_LB_go_143 : decode b_LB_go 143 = .ok (.aload_n 0, 1) := by decide +kernel
theorem d_LB_go_144 : decode b_LB_go 144 = .ok (.getfield 12, 3) := by decide +kernel
theorem d_LB_go_147 : decode b_LB_go 147 = .ok (.iconst 1, 1) := by decide +kernel
theorem d_LB_go_148 : decode b_LB_go 148 = .ok (.aload_n 0, 1) := by decide +kernel
theorem d_LB_go_149 : decode b_LB_go 149 = .ok (.getfield 12, 3) := by decide +kernel
theorem d_LB_go_152 : decode b_LB_go 152 = .ok (.getfield 118, 3) := by decide +kernel
theorem d_LB_go_155 : decode b_LB_go 155 = .ok (.isub, 1) := by decide +kernel
theorem d_LB_go_156 : decode b_LB_go 156 = .ok (.putfield 118, 3) := by decide +kernel
theorem d_LB_go_159 : decode b_LB_go 159 = .ok (.iload_n 2, 1) := by decide +kernel
theorem d_LB_go_160 : decode b_LB_go 160 = .ok (.ireturn, 1) := by decide +kernel
def p_LB_go (n : Nat) (E : PE) (v1 : Int32) (F : Nat → Nat → Int32) (G : Nat → Nat → Int32) (P : Nat → Nat → Option Nat) (N : Nat → Nat) : Option (Int32 × CU) := (if v1 = 0 then some ((-2), F, G, P, N) else (p_St_isSet n E F G P N v1).bind fun x2 => (if x2 = 0 then some ((-2), F, G, P, N) else (p_LB_refresh n E F G P N).bind fun (F5, G6, P7, N8) => (p_St_withLantern n E F5 G6 P7 N8 ).bind fun x10 => (if (v1 &&& (x10 ^^^ (-1))) = 0 then (p_Go_canBe n E F5 G6 P7 N8 v1 (F5 1 7)).bind fun x12 => (if x12 = 0 then some ((-3), F5, G6, P7, N8) else (p_Go_minutesOf n E F5 G6 P7 N8 v1 (F5 1 7)).bind fun x14 => if eN E (N8 1) = true then (if (eI E (N8 1) 2) ≤ 0 then some (x14, (upR (upR (upR (upR F5 1 8 ((F5 1 8) + x14)) 1 9 (((upR F5 1 8 ((F5 1 8) + x14)) 1 9) + 1)) 1 6 ((((upR (upR F5 1 8 ((F5 1 8) + x14)) 1 9 (((upR F5 1 8 ((F5 1 8) + x14)) 1 9) + 1)) 1 6) ^^^ v1))) 1 7 ((1 - ((upR (upR (upR F5 1 8 ((F5 1 8) + x14)) 1 9 (((upR F5 1 8 ((F5 1 8) + x14)) 1 9) + 1)) 1 6 ((((upR (upR F5 1 8 ((F5 1 8) + x14)) 1 9 (((upR F5 1 8 ((F5 1 8) + x14)) 1 9) + 1)) 1 6) ^^^ v1))) 1 7)))), G6, P7, N8) else (if ((F5 1 8) + x14) ≤ (eI E (N8 1) 2) then some (x14, (upR (upR (upR (upR F5 1 8 ((F5 1 8) + x14)) 1 9 (((upR F5 1 8 ((F5 1 8) + x14)) 1 9) + 1)) 1 6 ((((upR (upR F5 1 8 ((F5 1 8) + x14)) 1 9 (((upR F5 1 8 ((F5 1 8) + x14)) 1 9) + 1)) 1 6) ^^^ v1))) 1 7 ((1 - ((upR (upR (upR F5 1 8 ((F5 1 8) + x14)) 1 9 (((upR F5 1 8 ((F5 1 8) + x14)) 1 9) + 1)) 1 6 ((((upR (upR F5 1 8 ((F5 1 8) + x14)) 1 9 (((upR F5 1 8 ((F5 1 8) + x14)) 1 9) + 1)) 1 6) ^^^ v1))) 1 7)))), G6, P7, N8) else some ((-3), F5, G6, P7, N8))) else none) else some ((-3), F5, G6, P7, N8))))
set_option maxHeartbeats 4000000 in
theorem c_LB_go (l : Launch) (n : Nat) (E : PE) (v1 : Int32) (F : Nat → Nat → Int32) (G : Nat → Nat → Int32) (P : Nat → Nat → Option Nat) (N : Nat → Nat)  : CMi l y_LB_go b_LB_go 4 .int (rL 16) E (fun ad => [.ref (ad 0), .int v1]) F G P N (p_LB_go n E v1 F G P N) := by
  refine en_ci (by decide) (fun _ => Nat.le_of_ble_eq_true rfl) ?_
  intro z hf p e s m args below meth c dC dI ad cI cZ cW cJ A adK adV ls C hA h hr hlk hl
  have hl : lv_has ls 4 [(0, .ref (ad 0)), (1, .int v1)] := hl
  unfold p_LB_go at hf
  obtain ⟨hx, hb, hml, hown, hT, hK, hTS, hTR, hpS, hi⟩ := id C
  refine lv_iload_n hx hb d_LB_go_0 rfl (lv_at hl 1 rfl) ?_
  refine lv_if_eq (tgt := 15) hx hb d_LB_go_1 (by decide) (fun hc => ?_) (fun hc => ?_)
  · have hf := op_t hc hf
    refine lv_bipush (v := (-2)) hx hb d_LB_go_15 (by decide) ?_
    exact rt_ci C h hr hlk hf rfl d_LB_go_17
  · have hf := op_f hc hf
    refine lv_aload_n hx hb d_LB_go_4 rfl (lv_at hl 0 rfl) ?_
    refine cg_0_0 hx hb hT hown hK h.1 fl_LB_12 d_LB_go_5 ?_
    refine lv_iload_n hx hb d_LB_go_8 rfl (lv_at hl 1 rfl) ?_
    obtain ⟨x2, hc1, hf⟩ := op_bind hf
    refine kr_i (C := R_St) (b0 := ad 1) (rest := []) hx hb hml hown hT cB_bl (cB_to hK h.1 (cpS hpS h) hi) (va_recv hK h.1 (ci := 7) (q0 := 1) rfl rfl) (c_St_isSet l n E F G P N dC dI ad cI cZ cW cJ v1 _ hc1) (cbW 1 hT cd_St_isSet rfl rfl ini_St ml_LB_121 hd_St_isSet ⟨Nat.le_of_ble_eq_true rfl, Nat.le_of_ble_eq_true rfl⟩) im_St_isSet se_St_St_isSet__St_isSet rfl hl.1 rfl (Nat.le_of_ble_eq_true rfl) d_LB_go_9 ⟨Nat.zero_le _, Nat.zero_le _⟩ ?_
    refine lv_if_ne (tgt := 18) hx hb d_LB_go_12 (by decide) (fun hc => ?_) (fun hc => ?_)
    · have hf := op_f hc hf
      refine lv_aload_n hx hb d_LB_go_18 rfl (lv_at hl 0 rfl) ?_
      obtain ⟨⟨F5, G6, P7, N8⟩, hc3, hf⟩ := op_bind hf
      try dsimp only at hf
      refine kx_v (C0 := R_LB) (b0 := ad 0) (rest := []) C h hA rfl (va_recv hK h.1 (ci := 11) (q0 := 0) rfl rfl) (c_LB_refresh l n E  F G P N) hc3 (cbW 0 hT cd_LB_refresh rfl rfl ini_LB ml_LB_125 hd_LB_refresh ⟨Nat.le_of_ble_eq_true rfl, Nat.le_of_ble_eq_true rfl⟩) im_LB_refresh sp_LB_refresh rfl hl.1 rfl (Nat.le_of_ble_eq_true rfl) d_LB_go_19 ⟨Nat.zero_le _, Nat.zero_le _⟩ (fun H locs h => ?_)
      refine lv_iload_n hx hb d_LB_go_22 rfl (lv_at hl 1 rfl) ?_
      refine lv_aload_n hx hb d_LB_go_23 rfl (lv_at hl 0 rfl) ?_
      refine cg_0_0 hx hb hT hown hK h.1 fl_LB_12 d_LB_go_24 ?_
      obtain ⟨x10, hc9, hf⟩ := op_bind hf
      refine kr_i (C := R_St) (b0 := ad 1) (rest := [.int v1]) hx hb hml hown hT cB_bl (cB_to hK h.1 (cpS hpS h) hi) (va_recv hK h.1 (ci := 7) (q0 := 1) rfl rfl) (c_St_withLantern l n E F5 G6 P7 N8 dC dI ad cI cZ cW cJ  _ hc9) (cbW 0 hT cd_St_withLantern rfl rfl ini_St ml_LB_136 hd_St_withLantern ⟨Nat.le_of_ble_eq_true rfl, Nat.le_of_ble_eq_true rfl⟩) im_St_withLantern se_St_St_withLantern__St_withLantern rfl hl.1 rfl (Nat.le_of_ble_eq_true rfl) d_LB_go_27 ⟨Nat.zero_le _, Nat.zero_le _⟩ ?_
      refine lv_iconst (v := (-1)) hx hb d_LB_go_30 (by decide) ?_
      refine lv_ixor hx hb d_LB_go_31 ?_
      refine lv_iand hx hb d_LB_go_32 ?_
      refine lv_if_ne (tgt := 54) hx hb d_LB_go_33 (by decide) (fun hc => ?_) (fun hc => ?_)
      · have hf := op_f hc hf
        refine lv_bipush (v := (-3)) hx hb d_LB_go_54 (by decide) ?_
        exact rt_ci C h hr hlk hf rfl d_LB_go_56
      · have hf := op_t hc hf
        refine lv_aload_n hx hb d_LB_go_36 rfl (lv_at hl 0 rfl) ?_
        refine cg_0_4 hx hb hT hown hK h.1 fl_LB_28 d_LB_go_37 ?_
        refine lv_iload_n hx hb d_LB_go_40 rfl (lv_at hl 1 rfl) ?_
        refine lv_aload_n hx hb d_LB_go_41 rfl (lv_at hl 0 rfl) ?_
        refine cg_0_0 hx hb hT hown hK h.1 fl_LB_12 d_LB_go_42 ?_
        refine cg_1_7 hx hb hT hown hK h.1 fl_LB_118 d_LB_go_45 ?_
        obtain ⟨x12, hc11, hf⟩ := op_bind hf
        refine kr_i (C := R_Go) (b0 := ad 3) (rest := []) hx hb hml hown hT cB_bl (cB_to hK h.1 (cpS hpS h) hi) (va_recv hK h.1 (ci := 1) (q0 := 3) rfl rfl) (c_Go_canBe l n E F5 G6 P7 N8 dC dI ad cI cZ cW cJ v1 (F5 1 7) _ hc11) (cbW 2 hT cd_Go_canBe rfl rfl ini_Go ml_LB_132 hd_Go_canBe ⟨Nat.le_of_ble_eq_true rfl, Nat.le_of_ble_eq_true rfl⟩) im_Go_canBe se_Go_Go_canBe__Go_canBe rfl hl.1 rfl (Nat.le_of_ble_eq_true rfl) d_LB_go_48 ⟨Nat.zero_le _, Nat.zero_le _⟩ ?_
        refine lv_if_ne (tgt := 57) hx hb d_LB_go_51 (by decide) (fun hc => ?_) (fun hc => ?_)
        · have hf := op_f hc hf
          refine lv_aload_n hx hb d_LB_go_57 rfl (lv_at hl 0 rfl) ?_
          refine cg_0_4 hx hb hT hown hK h.1 fl_LB_28 d_LB_go_58 ?_
          refine lv_iload_n hx hb d_LB_go_61 rfl (lv_at hl 1 rfl) ?_
          refine lv_aload_n hx hb d_LB_go_62 rfl (lv_at hl 0 rfl) ?_
          refine cg_0_0 hx hb hT hown hK h.1 fl_LB_12 d_LB_go_63 ?_
          refine cg_1_7 hx hb hT hown hK h.1 fl_LB_118 d_LB_go_66 ?_
          obtain ⟨x14, hc13, hf⟩ := op_bind hf
          refine kr_i (C := R_Go) (b0 := ad 3) (rest := []) hx hb hml hown hT cB_bl (cB_to hK h.1 (cpS hpS h) hi) (va_recv hK h.1 (ci := 1) (q0 := 3) rfl rfl) (c_Go_minutesOf l n E F5 G6 P7 N8 dC dI ad cI cZ cW cJ v1 (F5 1 7) _ hc13) (cbW 2 hT cd_Go_minutesOf rfl rfl ini_Go ml_LB_128 hd_Go_minutesOf ⟨Nat.le_of_ble_eq_true rfl, Nat.le_of_ble_eq_true rfl⟩) im_Go_minutesOf se_Go_Go_minutesOf__Go_minutesOf rfl hl.1 rfl (Nat.le_of_ble_eq_true rfl) d_LB_go_69 ⟨Nat.zero_le _, Nat.zero_le _⟩ ?_
          refine lv_istore_n (lv' := [(2, .int x14), (0, .ref (ad 0)), (1, .int v1)]) hx hb d_LB_go_72 rfl hl (by decide) rfl (fun ls hl => ?_)
          refine lv_aload_n hx hb d_LB_go_73 rfl (lv_at hl 1 rfl) ?_
          refine cg_0_0 hx hb hT hown hK h.1 fl_LB_12 d_LB_go_74 ?_
          refine cg_1_2 hx hb hT hown hK h.1 fl_LB_64 d_LB_go_77 ?_
          obtain ⟨h15, hf⟩ := op_if hf
          refine eg_2 hx hb hT hown hK ((cpS hpS h).2 (N8 1) h15).1 fl_LB_109 d_LB_go_80 ?_
          refine lv_istore_n (lv' := [(3, .int (eI E (N8 1) 2)), (2, .int x14), (0, .ref (ad 0)), (1, .int v1)]) hx hb d_LB_go_83 rfl hl (by decide) rfl (fun ls hl => ?_)
          refine lv_iload_n hx hb d_LB_go_84 rfl (lv_at hl 0 rfl) ?_
          refine lv_if_le (tgt := 104) hx hb d_LB_go_85 (by decide) (fun hc => ?_) (fun hc => ?_)
          · have hf := op_t hc hf
            refine lv_aload_n hx hb d_LB_go_104 rfl (lv_at hl 2 rfl) ?_
            refine cg_0_0 hx hb hT hown hK h.1 fl_LB_12 d_LB_go_105 ?_
            refine lv_dup hx hb d_LB_go_108 rfl ?_
            refine cg_1_8 hx hb hT hown hK h.1 fl_LB_112 d_LB_go_109 ?_
            refine lv_iload_n hx hb d_LB_go_112 rfl (lv_at hl 1 rfl) ?_
            refine lv_iadd hx hb d_LB_go_113 ?_
            refine cp_1_8 hx hb hT hown hK h fl_LB_112 d_LB_go_114 (fun H locs h => ?_)
            refine lv_aload_n hx hb d_LB_go_117 rfl (lv_at hl 2 rfl) ?_
            refine cg_0_0 hx hb hT hown hK h.1 fl_LB_12 d_LB_go_118 ?_
            refine lv_dup hx hb d_LB_go_121 rfl ?_
            refine cg_1_9 hx hb hT hown hK h.1 fl_LB_115 d_LB_go_122 ?_
            refine lv_iconst (v := 1) hx hb d_LB_go_125 (by decide) ?_
            refine lv_iadd hx hb d_LB_go_126 ?_
            refine cp_1_9 hx hb hT hown hK h fl_LB_115 d_LB_go_127 (fun H locs h => ?_)
            refine lv_aload_n hx hb d_LB_go_130 rfl (lv_at hl 2 rfl) ?_
            refine cg_0_0 hx hb hT hown hK h.1 fl_LB_12 d_LB_go_131 ?_
            refine lv_dup hx hb d_LB_go_134 rfl ?_
            refine cg_1_6 hx hb hT hown hK h.1 fl_LB_97 d_LB_go_135 ?_
            refine lv_iload_n hx hb d_LB_go_138 rfl (lv_at hl 3 rfl) ?_
            refine lv_ixor hx hb d_LB_go_139 ?_
            refine cp_1_6 hx hb hT hown hK h fl_LB_97 d_LB_go_140 (fun H locs h => ?_)
            refine lv_aload_n hx hb d_LB_go_143 rfl (lv_at hl 2 rfl) ?_
            refine cg_0_0 hx hb hT hown hK h.1 fl_LB_12 d_LB_go_144 ?_
            refine lv_iconst (v := 1) hx hb d_LB_go_147 (by decide) ?_
            refine lv_aload_n hx hb d_LB_go_148 rfl (lv_at hl 2 rfl) ?_
            refine cg_0_0 hx hb hT hown hK h.1 fl_LB_12 d_LB_go_149 ?_
            refine cg_1_7 hx hb hT hown hK h.1 fl_LB_118 d_LB_go_152 ?_
            refine lv_isub hx hb d_LB_go_155 ?_
            refine cp_1_7 hx hb hT hown hK h fl_LB_118 d_LB_go_156 (fun H locs h => ?_)
            refine lv_iload_n hx hb d_LB_go_159 rfl (lv_at hl 1 rfl) ?_
            exact rt_ci C h hr hlk hf rfl d_LB_go_160
          · have hf := op_f hc hf
            refine lv_aload_n hx hb d_LB_go_88 rfl (lv_at hl 2 rfl) ?_
            refine cg_0_0 hx hb hT hown hK h.1 fl_LB_12 d_LB_go_89 ?_
            refine cg_1_8 hx hb hT hown hK h.1 fl_LB_112 d_LB_go_92 ?_
            refine lv_iload_n hx hb d_LB_go_95 rfl (lv_at hl 1 rfl) ?_
            refine lv_iadd hx hb d_LB_go_96 ?_
            refine lv_iload_n hx hb d_LB_go_97 rfl (lv_at hl 0 rfl) ?_
            refine lv_icmp_le (tgt := 104) hx hb d_LB_go_98 (by decide) (fun hc => ?_) (fun hc => ?_)
            · have hf := op_t hc hf
              refine lv_aload_n hx hb d_LB_go_104 rfl (lv_at hl 2 rfl) ?_
              refine cg_0_0 hx hb hT hown hK h.1 fl_LB_12 d_LB_go_105 ?_
              refine lv_dup hx hb d_LB_go_108 rfl ?_
              refine cg_1_8 hx hb hT hown hK h.1 fl_LB_112 d_LB_go_109 ?_
              refine lv_iload_n hx hb d_LB_go_112 rfl (lv_at hl 1 rfl) ?_
              refine lv_iadd hx hb d_LB_go_113 ?_
              refine cp_1_8 hx hb hT hown hK h fl_LB_112 d_LB_go_114 (fun H locs h => ?_)
              refine lv_aload_n hx hb d_LB_go_117 rfl (lv_at hl 2 rfl) ?_
              refine cg_0_0 hx hb hT hown hK h.1 fl_LB_12 d_LB_go_118 ?_
              refine lv_dup hx hb d_LB_go_121 rfl ?_
              refine cg_1_9 hx hb hT hown hK h.1 fl_LB_115 d_LB_go_122 ?_
              refine lv_iconst (v := 1) hx hb d_LB_go_125 (by decide) ?_
              refine lv_iadd hx hb d_LB_go_126 ?_
              refine cp_1_9 hx hb hT hown hK h fl_LB_115 d_LB_go_127 (fun H locs h => ?_)
              refine lv_aload_n hx hb d_LB_go_130 rfl (lv_at hl 2 rfl) ?_
              refine cg_0_0 hx hb hT hown hK h.1 fl_LB_12 d_LB_go_131 ?_
              refine lv_dup hx hb d_LB_go_134 rfl ?_
              refine cg_1_6 hx hb hT hown hK h.1 fl_LB_97 d_LB_go_135 ?_
              refine lv_iload_n hx hb d_LB_go_138 rfl (lv_at hl 3 rfl) ?_
              refine lv_ixor hx hb d_LB_go_139 ?_
              refine cp_1_6 hx hb hT hown hK h fl_LB_97 d_LB_go_140 (fun H locs h => ?_)
              refine lv_aload_n hx hb d_LB_go_143 rfl (lv_at hl 2 rfl) ?_
              refine cg_0_0 hx hb hT hown hK h.1 fl_LB_12 d_LB_go_144 ?_
              refine lv_iconst (v := 1) hx hb d_LB_go_147 (by decide) ?_
              refine lv_aload_n hx hb d_LB_go_148 rfl (lv_at hl 2 rfl) ?_
              refine cg_0_0 hx hb hT hown hK h.1 fl_LB_12 d_LB_go_149 ?_
              refine cg_1_7 hx hb hT hown hK h.1 fl_LB_118 d_LB_go_152 ?_
              refine lv_isub hx hb d_LB_go_155 ?_
              refine cp_1_7 hx hb hT hown hK h fl_LB_118 d_LB_go_156 (fun H locs h => ?_)
              refine lv_iload_n hx hb d_LB_go_159 rfl (lv_at hl 1 rfl) ?_
              exact rt_ci C h hr hlk hf rfl d_LB_go_160
            · have hf := op_f hc hf
              refine lv_bipush (v := (-3)) hx hb d_LB_go_101 (by decide) ?_
              exact rt_ci C h hr hlk hf rfl d_LB_go_103
        · have hf := op_t hc hf
          refine lv_bipush (v := (-3)) hx hb d_LB_go_54 (by decide) ?_
          exact rt_ci C h hr hlk hf rfl d_LB_go_56
    · have hf := op_t hc hf
      refine lv_bipush (v := (-2)) hx hb d_LB_go_15 (by decide) ?_
      exact rt_ci C h hr hlk hf rfl d_LB_go_17
theorem hd_LB_least : y_LB_least.cls ≠ "java/lang/invoke/MethodHandle" ∧ y_LB_least.cls ≠ "java/lang/invoke/VarHandle" ∧ (parseMethodDescriptor y_LB_least.desc).map (fun d => d.parameters.length) = some 1 := by decide +kernel
theorem d_LB_least_0 : decode b_LB_least 0 = .ok (.aload_n 0, 1) := by decide +kernel
theorem d_LB_least_1 : decode b_LB_least 1 = .ok (.getfield 12, 3) := by decide +kernel
theorem d_LB_least_4 : decode b_LB_least 4 = .ok (.iload_n 1, 1) := by decide +kernel
theorem d_LB_least_5 : decode b_LB_least 5 = .ok (.invokevirtual 121, 3) := by decide +kernel
theorem d_LB_least_8 : decode b_LB_least 8 = .ok (.ifCond .ne 6, 3) := by decide +kernel
theorem d_LB_least_11 : decode b_LB_least 11 = .ok (.bipush (-2), 2) := by decide +kernel
theorem d_LB_least_13 : decode b_LB_least 13 = .ok (.ireturn, 1) := by decide +kernel
theorem d_LB_least_14 : decode b_LB_least 14 = .ok (.aload_n 0, 1) := by decide +kernel
theorem d_LB_least_15 : decode b_LB_least 15 = .ok (.invokevirtual 125, 3) := by decide +kernel
theorem d_LB_least_18 : decode b_LB_least 18 = .ok (.aload_n 0, 1) := by decide +kernel
theorem d_LB_least_19 : decode b_LB_least 19 = .ok (.iload_n 1, 1) := by decide +kernel
theorem d_LB_least_20 : decode b_LB_least 20 = .ok (.iconst 0, 1) := by decide +kernel
theorem d_LB_least_21 : decode b_LB_least 21 = .ok (.invokevirtual 139, 3) := by decide +kernel
theorem d_LB_least_24 : decode b_LB_least 24 = .ok (.ireturn, 1) := by decide +kernel
def p_LB_least (n : Nat) (E : PE) (v1 : Int32) (F : Nat → Nat → Int32) (G : Nat → Nat → Int32) (P : Nat → Nat → Option Nat) (N : Nat → Nat) : Option (Int32 × CU) := (p_St_isSet n E F G P N v1).bind fun x2 => (if x2 = 0 then some ((-2), F, G, P, N) else (p_LB_refresh n E F G P N).bind fun (F5, G6, P7, N8) => (p_LB_leastFor n E v1 0 F5 G6 P7 N8).bind fun (x10, F11, G12, P13, N14) => some (x10, F11, G12, P13, N14))
set_option maxHeartbeats 4000000 in
theorem c_LB_least (l : Launch) (n : Nat) (E : PE) (v1 : Int32) (F : Nat → Nat → Int32) (G : Nat → Nat → Int32) (P : Nat → Nat → Option Nat) (N : Nat → Nat)  : CMi l y_LB_least b_LB_least 2 .int (rL 16) E (fun ad => [.ref (ad 0), .int v1]) F G P N (p_LB_least n E v1 F G P N) := by
  refine en_ci (by decide) (fun _ => Nat.le_of_ble_eq_true rfl) ?_
  intro z hf p e s m args below meth c dC dI ad cI cZ cW cJ A adK adV ls C hA h hr hlk hl
  have hl : lv_has ls 2 [(0, .ref (ad 0)), (1, .int v1)] := hl
  unfold p_LB_least at hf
  obtain ⟨hx, hb, hml, hown, hT, hK, hTS, hTR, hpS, hi⟩ := id C
  refine lv_aload_n hx hb d_LB_least_0 rfl (lv_at hl 0 rfl) ?_
  refine cg_0_0 hx hb hT hown hK h.1 fl_LB_12 d_LB_least_1 ?_
  refine lv_iload_n hx hb d_LB_least_4 rfl (lv_at hl 1 rfl) ?_
  obtain ⟨x2, hc1, hf⟩ := op_bind hf
  refine kr_i (C := R_St) (b0 := ad 1) (rest := []) hx hb hml hown hT cB_bl (cB_to hK h.1 (cpS hpS h) hi) (va_recv hK h.1 (ci := 7) (q0 := 1) rfl rfl) (c_St_isSet l n E F G P N dC dI ad cI cZ cW cJ v1 _ hc1) (cbW 1 hT cd_St_isSet rfl rfl ini_St ml_LB_121 hd_St_isSet ⟨Nat.le_of_ble_eq_true rfl, Nat.le_of_ble_eq_true rfl⟩) im_St_isSet se_St_St_isSet__St_isSet rfl hl.1 rfl (Nat.le_of_ble_eq_true rfl) d_LB_least_5 ⟨Nat.zero_le _, Nat.zero_le _⟩ ?_
  refine lv_if_ne (tgt := 14) hx hb d_LB_least_8 (by decide) (fun hc => ?_) (fun hc => ?_)
  · have hf := op_f hc hf
    refine lv_aload_n hx hb d_LB_least_14 rfl (lv_at hl 0 rfl) ?_
    obtain ⟨⟨F5, G6, P7, N8⟩, hc3, hf⟩ := op_bind hf
    try dsimp only at hf
    refine kx_v (C0 := R_LB) (b0 := ad 0) (rest := []) C h hA rfl (va_recv hK h.1 (ci := 11) (q0 := 0) rfl rfl) (c_LB_refresh l n E  F G P N) hc3 (cbW 0 hT cd_LB_refresh rfl rfl ini_LB ml_LB_125 hd_LB_refresh ⟨Nat.le_of_ble_eq_true rfl, Nat.le_of_ble_eq_true rfl⟩) im_LB_refresh sp_LB_refresh rfl hl.1 rfl (Nat.le_of_ble_eq_true rfl) d_LB_least_15 ⟨Nat.zero_le _, Nat.zero_le _⟩ (fun H locs h => ?_)
    refine lv_aload_n hx hb d_LB_least_18 rfl (lv_at hl 0 rfl) ?_
    refine lv_iload_n hx hb d_LB_least_19 rfl (lv_at hl 1 rfl) ?_
    refine lv_iconst (v := 0) hx hb d_LB_least_20 (by decide) ?_
    obtain ⟨⟨x10, F11, G12, P13, N14⟩, hc9, hf⟩ := op_bind hf
    try dsimp only at hf
    refine kx_i (C0 := R_LB) (b0 := ad 0) (rest := []) C h hA rfl (va_recv hK h.1 (ci := 11) (q0 := 0) rfl rfl) (c_LB_leastFor l n E v1 0 F5 G6 P7 N8) hc9 (cbW 2 hT cd_LB_leastFor rfl rfl ini_LB ml_LB_139 hd_LB_leastFor ⟨Nat.le_of_ble_eq_true rfl, Nat.le_of_ble_eq_true rfl⟩) im_LB_leastFor sp_LB_leastFor rfl hl.1 rfl (Nat.le_of_ble_eq_true rfl) d_LB_least_21 ⟨Nat.zero_le _, Nat.zero_le _⟩ (fun H locs h => ?_)
    exact rt_ci C h hr hlk hf rfl d_LB_least_24
  · have hf := op_t hc hf
    refine lv_bipush (v := (-2)) hx hb d_LB_least_11 (by decide) ?_
    exact rt_ci C h hr hlk hf rfl d_LB_least_13
theorem hd_LB_fewest : y_LB_fewest.cls ≠ "java/lang/invoke/MethodHandle" ∧ y_LB_fewest.cls ≠ "java/lang/invoke/VarHandle" ∧ (parseMethodDescriptor y_LB_fewest.desc).map (fun d => d.parameters.length) = some 1 := by decide +kernel
theorem d_LB_fewest_0 : decode b_LB_fewest 0 = .ok (.aload_n 0, 1) := by decide +kernel
theorem d_LB_fewest_1 : decode b_LB_fewest 1 = .ok (.getfield 12, 3) := by decide +kernel
theorem d_LB_fewest_4 : decode b_LB_fewest 4 = .ok (.iload_n 1, 1) := by decide +kernel
theorem d_LB_fewest_5 : decode b_LB_fewest 5 = .ok (.invokevirtual 121, 3) := by decide +kernel
theorem d_LB_fewest_8 : decode b_LB_fewest 8 = .ok (.ifCond .ne 6, 3) := by decide +kernel
theorem d_LB_fewest_11 : decode b_LB_fewest 11 = .ok (.bipush (-2), 2) := by decide +kernel
theorem d_LB_fewest_13 : decode b_LB_fewest 13 = .ok (.ireturn, 1) := by decide +kernel
theorem d_LB_fewest_14 : decode b_LB_fewest 14 = .ok (.aload_n 0, 1) := by decide +kernel
theorem d_LB_fewest_15 : decode b_LB_fewest 15 = .ok (.invokevirtual 125, 3) := by decide +kernel
theorem d_LB_fewest_18 : decode b_LB_fewest 18 = .ok (.aload_n 0, 1) := by decide +kernel
theorem d_LB_fewest_19 : decode b_LB_fewest 19 = .ok (.getfield 37, 3) := by decide +kernel
theorem d_LB_fewest_22 : decode b_LB_fewest 22 = .ok (.iload_n 1, 1) := by decide +kernel
theorem d_LB_fewest_23 : decode b_LB_fewest 23 = .ok (.iconst 0, 1) := by decide +kernel
theorem d_LB_fewest_24 : decode b_LB_fewest 24 = .ok (.iconst 1, 1) := by decide +kernel
theorem d_LB_fewest_25 : decode b_LB_fewest 25 = .ok (.invokevirtual 142, 3) := by decide +kernel
theorem d_LB_fewest_28 : decode b_LB_fewest 28 = .ok (.aload_n 0, 1) := by decide +kernel
theorem d_LB_fewest_29 : decode b_LB_fewest 29 = .ok (.getfield 37, 3) := by decide +kernel
theorem d_LB_fewest_32 : decode b_LB_fewest 32 = .ok (.aload_n 0, 1) := by decide +kernel
theorem d_LB_fewest_33 : decode b_LB_fewest 33 = .ok (.getfield 12, 3) := by decide +kernel
theorem d_LB_fewest_36 : decode b_LB_fewest 36 = .ok (.invokevirtual 146, 3) := by decide +kernel
theorem d_LB_fewest_39 : decode b_LB_fewest 39 = .ok (.invokevirtual 149, 3) := by decide +kernel
theorem d_LB_fewest_42 : decode b_LB_fewest 42 = .ok (.ireturn, 1) := by decide +kernel
def p_LB_fewest (n : Nat) (E : PE) (v1 : Int32) (F : Nat → Nat → Int32) (G : Nat → Nat → Int32) (P : Nat → Nat → Option Nat) (N : Nat → Nat) : Option (Int32 × CU) := (p_St_isSet n E F G P N v1).bind fun x2 => (if x2 = 0 then some ((-2), F, G, P, N) else (p_LB_refresh n E F G P N).bind fun (F5, G6, P7, N8) => (p_Se_measureTo n E v1 0 1 F5 G6 P7 N8).bind fun (F11, G12, P13, N14) => (p_St_place n E F11 G12 P13 N14 ).bind fun x16 => (p_Se_measureAt n E F11 G12 P13 N14 x16).bind fun x18 => some (x18, F11, G12, P13, N14))
set_option maxHeartbeats 4000000 in
theorem c_LB_fewest (l : Launch) (n : Nat) (E : PE) (v1 : Int32) (F : Nat → Nat → Int32) (G : Nat → Nat → Int32) (P : Nat → Nat → Option Nat) (N : Nat → Nat)  : CMi l y_LB_fewest b_LB_fewest 2 .int (rL 16) E (fun ad => [.ref (ad 0), .int v1]) F G P N (p_LB_fewest n E v1 F G P N) := by
  refine en_ci (by decide) (fun _ => Nat.le_of_ble_eq_true rfl) ?_
  intro z hf p e s m args below meth c dC dI ad cI cZ cW cJ A adK adV ls C hA h hr hlk hl
  have hl : lv_has ls 2 [(0, .ref (ad 0)), (1, .int v1)] := hl
  unfold p_LB_fewest at hf
  obtain ⟨hx, hb, hml, hown, hT, hK, hTS, hTR, hpS, hi⟩ := id C
  refine lv_aload_n hx hb d_LB_fewest_0 rfl (lv_at hl 0 rfl) ?_
  refine cg_0_0 hx hb hT hown hK h.1 fl_LB_12 d_LB_fewest_1 ?_
  refine lv_iload_n hx hb d_LB_fewest_4 rfl (lv_at hl 1 rfl) ?_
  obtain ⟨x2, hc1, hf⟩ := op_bind hf
  refine kr_i (C := R_St) (b0 := ad 1) (rest := []) hx hb hml hown hT cB_bl (cB_to hK h.1 (cpS hpS h) hi) (va_recv hK h.1 (ci := 7) (q0 := 1) rfl rfl) (c_St_isSet l n E F G P N dC dI ad cI cZ cW cJ v1 _ hc1) (cbW 1 hT cd_St_isSet rfl rfl ini_St ml_LB_121 hd_St_isSet ⟨Nat.le_of_ble_eq_true rfl, Nat.le_of_ble_eq_true rfl⟩) im_St_isSet se_St_St_isSet__St_isSet rfl hl.1 rfl (Nat.le_of_ble_eq_true rfl) d_LB_fewest_5 ⟨Nat.zero_le _, Nat.zero_le _⟩ ?_
  refine lv_if_ne (tgt := 14) hx hb d_LB_fewest_8 (by decide) (fun hc => ?_) (fun hc => ?_)
  · have hf := op_f hc hf
    refine lv_aload_n hx hb d_LB_fewest_14 rfl (lv_at hl 0 rfl) ?_
    obtain ⟨⟨F5, G6, P7, N8⟩, hc3, hf⟩ := op_bind hf
    try dsimp only at hf
    refine kx_v (C0 := R_LB) (b0 := ad 0) (rest := []) C h hA rfl (va_recv hK h.1 (ci := 11) (q0 := 0) rfl rfl) (c_LB_refresh l n E  F G P N) hc3 (cbW 0 hT cd_LB_refresh rfl rfl ini_LB ml_LB_125 hd_LB_refresh ⟨Nat.le_of_ble_eq_true rfl, Nat.le_of_ble_eq_true rfl⟩) im_LB_refresh sp_LB_refresh rfl hl.1 rfl (Nat.le_of_ble_eq_true rfl) d_LB_fewest_15 ⟨Nat.zero_le _, Nat.zero_le _⟩ (fun H locs h => ?_)
    refine lv_aload_n hx hb d_LB_fewest_18 rfl (lv_at hl 0 rfl) ?_
    refine cg_0_5 hx hb hT hown hK h.1 fl_LB_37 d_LB_fewest_19 ?_
    refine lv_iload_n hx hb d_LB_fewest_22 rfl (lv_at hl 1 rfl) ?_
    refine lv_iconst (v := 0) hx hb d_LB_fewest_23 (by decide) ?_
    refine lv_iconst (v := 1) hx hb d_LB_fewest_24 (by decide) ?_
    obtain ⟨⟨F11, G12, P13, N14⟩, hc9, hf⟩ := op_bind hf
    try dsimp only at hf
    refine kx_v (C0 := R_Se) (b0 := ad 4) (rest := []) C h hA rfl (va_recv hK h.1 (ci := 6) (q0 := 4) rfl rfl) (c_Se_measureTo l n E v1 0 1 F5 G6 P7 N8) hc9 (cbW 3 hT cd_Se_measureTo rfl rfl ini_Se ml_LB_142 hd_Se_measureTo ⟨Nat.le_of_ble_eq_true rfl, Nat.le_of_ble_eq_true rfl⟩) im_Se_measureTo se_Se_Se_measureTo__Se_measureTo rfl hl.1 rfl (Nat.le_of_ble_eq_true rfl) d_LB_fewest_25 ⟨Nat.zero_le _, Nat.zero_le _⟩ (fun H locs h => ?_)
    refine lv_aload_n hx hb d_LB_fewest_28 rfl (lv_at hl 0 rfl) ?_
    refine cg_0_5 hx hb hT hown hK h.1 fl_LB_37 d_LB_fewest_29 ?_
    refine lv_aload_n hx hb d_LB_fewest_32 rfl (lv_at hl 0 rfl) ?_
    refine cg_0_0 hx hb hT hown hK h.1 fl_LB_12 d_LB_fewest_33 ?_
    obtain ⟨x16, hc15, hf⟩ := op_bind hf
    refine kr_i (C := R_St) (b0 := ad 1) (rest := [.ref (ad 4)]) hx hb hml hown hT cB_bl (cB_to hK h.1 (cpS hpS h) hi) (va_recv hK h.1 (ci := 7) (q0 := 1) rfl rfl) (c_St_place l n E F11 G12 P13 N14 dC dI ad cI cZ cW cJ  _ hc15) (cbW 0 hT cd_St_place rfl rfl ini_St ml_LB_146 hd_St_place ⟨Nat.le_of_ble_eq_true rfl, Nat.le_of_ble_eq_true rfl⟩) im_St_place se_St_St_place__St_place rfl hl.1 rfl (Nat.le_of_ble_eq_true rfl) d_LB_fewest_36 ⟨Nat.zero_le _, Nat.zero_le _⟩ ?_
    obtain ⟨x18, hc17, hf⟩ := op_bind hf
    refine kr_i (C := R_Se) (b0 := ad 4) (rest := []) hx hb hml hown hT cB_bl (cB_to hK h.1 (cpS hpS h) hi) (va_recv hK h.1 (ci := 6) (q0 := 4) rfl rfl) (c_Se_measureAt l n E F11 G12 P13 N14 dC dI ad cI cZ cW cJ x16 _ hc17) (cbW 1 hT cd_Se_measureAt rfl rfl ini_Se ml_LB_149 hd_Se_measureAt ⟨Nat.le_of_ble_eq_true rfl, Nat.le_of_ble_eq_true rfl⟩) im_Se_measureAt se_Se_Se_measureAt__Se_measureAt rfl hl.1 rfl (Nat.le_of_ble_eq_true rfl) d_LB_fewest_39 ⟨Nat.zero_le _, Nat.zero_le _⟩ ?_
    exact rt_ci C h hr hlk hf rfl d_LB_fewest_42
  · have hf := op_t hc hf
    refine lv_bipush (v := (-2)) hx hb d_LB_fewest_11 (by decide) ?_
    exact rt_ci C h hr hlk hf rfl d_LB_fewest_13
theorem hd_LB_first : y_LB_first.cls ≠ "java/lang/invoke/MethodHandle" ∧ y_LB_first.cls ≠ "java/lang/invoke/VarHandle" ∧ (parseMethodDescriptor y_LB_first.desc).map (fun d => d.parameters.length) = some 1 := by decide +kernel
theorem d_LB_first_0 : decode b_LB_first 0 = .ok (.aload_n 0, 1) := by decide +kernel
theorem d_LB_first_1 : decode b_LB_first 1 = .ok (.getfield 12, 3) := by decide +kernel
theorem d_LB_first_4 : decode b_LB_first 4 = .ok (.iload_n 1, 1) := by decide +kernel
theorem d_LB_first_5 : decode b_LB_first 5 = .ok (.invokevirtual 121, 3) := by decide +kernel
theorem d_LB_first_8 : decode b_LB_first 8 = .ok (.ifCond .ne 6, 3) := by decide +kernel
theorem d_LB_first_11 : decode b_LB_first 11 = .ok (.bipush (-2), 2) := by decide +kernel
theorem d_LB_first_13 : decode b_LB_first 13 = .ok (.ireturn, 1) := by decide +kernel
theorem d_LB_first_14 : decode b_LB_first 14 = .ok (.aload_n 0, 1) := by decide +kernel
theorem d_LB_first_15 : decode b_LB_first 15 = .ok (.invokevirtual 125, 3) := by decide +kernel
theorem d_LB_first_18 : decode b_LB_first 18 = .ok (.aload_n 0, 1) := by decide +kernel
theorem d_LB_first_19 : decode b_LB_first 19 = .ok (.getfield 37, 3) := by decide +kernel
theorem d_LB_first_22 : decode b_LB_first 22 = .ok (.iload_n 1, 1) := by decide +kernel
theorem d_LB_first_23 : decode b_LB_first 23 = .ok (.iconst 0, 1) := by decide +kernel
theorem d_LB_first_24 : decode b_LB_first 24 = .ok (.iconst 0, 1) := by decide +kernel
theorem d_LB_first_25 : decode b_LB_first 25 = .ok (.invokevirtual 142, 3) := by decide +kernel
theorem d_LB_first_28 : decode b_LB_first 28 = .ok (.aload_n 0, 1) := by decide +kernel
theorem d_LB_first_29 : decode b_LB_first 29 = .ok (.getfield 37, 3) := by decide +kernel
theorem d_LB_first_32 : decode b_LB_first 32 = .ok (.aload_n 0, 1) := by decide +kernel
theorem d_LB_first_33 : decode b_LB_first 33 = .ok (.getfield 12, 3) := by decide +kernel
theorem d_LB_first_36 : decode b_LB_first 36 = .ok (.invokevirtual 146, 3) := by decide +kernel
theorem d_LB_first_39 : decode b_LB_first 39 = .ok (.invokevirtual 153, 3) := by decide +kernel
theorem d_LB_first_42 : decode b_LB_first 42 = .ok (.ireturn, 1) := by decide +kernel
def p_LB_first (n : Nat) (E : PE) (v1 : Int32) (F : Nat → Nat → Int32) (G : Nat → Nat → Int32) (P : Nat → Nat → Option Nat) (N : Nat → Nat) : Option (Int32 × CU) := (p_St_isSet n E F G P N v1).bind fun x2 => (if x2 = 0 then some ((-2), F, G, P, N) else (p_LB_refresh n E F G P N).bind fun (F5, G6, P7, N8) => (p_Se_measureTo n E v1 0 0 F5 G6 P7 N8).bind fun (F11, G12, P13, N14) => (p_St_place n E F11 G12 P13 N14 ).bind fun x16 => (p_Se_firstSetAt n E F11 G12 P13 N14 x16).bind fun x18 => some (x18, F11, G12, P13, N14))
set_option maxHeartbeats 4000000 in
theorem c_LB_first (l : Launch) (n : Nat) (E : PE) (v1 : Int32) (F : Nat → Nat → Int32) (G : Nat → Nat → Int32) (P : Nat → Nat → Option Nat) (N : Nat → Nat)  : CMi l y_LB_first b_LB_first 2 .int (rL 16) E (fun ad => [.ref (ad 0), .int v1]) F G P N (p_LB_first n E v1 F G P N) := by
  refine en_ci (by decide) (fun _ => Nat.le_of_ble_eq_true rfl) ?_
  intro z hf p e s m args below meth c dC dI ad cI cZ cW cJ A adK adV ls C hA h hr hlk hl
  have hl : lv_has ls 2 [(0, .ref (ad 0)), (1, .int v1)] := hl
  unfold p_LB_first at hf
  obtain ⟨hx, hb, hml, hown, hT, hK, hTS, hTR, hpS, hi⟩ := id C
  refine lv_aload_n hx hb d_LB_first_0 rfl (lv_at hl 0 rfl) ?_
  refine cg_0_0 hx hb hT hown hK h.1 fl_LB_12 d_LB_first_1 ?_
  refine lv_iload_n hx hb d_LB_first_4 rfl (lv_at hl 1 rfl) ?_
  obtain ⟨x2, hc1, hf⟩ := op_bind hf
  refine kr_i (C := R_St) (b0 := ad 1) (rest := []) hx hb hml hown hT cB_bl (cB_to hK h.1 (cpS hpS h) hi) (va_recv hK h.1 (ci := 7) (q0 := 1) rfl rfl) (c_St_isSet l n E F G P N dC dI ad cI cZ cW cJ v1 _ hc1) (cbW 1 hT cd_St_isSet rfl rfl ini_St ml_LB_121 hd_St_isSet ⟨Nat.le_of_ble_eq_true rfl, Nat.le_of_ble_eq_true rfl⟩) im_St_isSet se_St_St_isSet__St_isSet rfl hl.1 rfl (Nat.le_of_ble_eq_true rfl) d_LB_first_5 ⟨Nat.zero_le _, Nat.zero_le _⟩ ?_
  refine lv_if_ne (tgt := 14) hx hb d_LB_first_8 (by decide) (fun hc => ?_) (fun hc => ?_)
  · have hf := op_f hc hf
    refine lv_aload_n hx hb d_LB_first_14 rfl (lv_at hl 0 rfl) ?_
    obtain ⟨⟨F5, G6, P7, N8⟩, hc3, hf⟩ := op_bind hf
    try dsimp only at hf
    refine kx_v (C0 := R_LB) (b0 := ad 0) (rest := []) C h hA rfl (va_recv hK h.1 (ci := 11) (q0 := 0) rfl rfl) (c_LB_refresh l n E  F G P N) hc3 (cbW 0 hT cd_LB_refresh rfl rfl ini_LB ml_LB_125 hd_LB_refresh ⟨Nat.le_of_ble_eq_true rfl, Nat.le_of_ble_eq_true rfl⟩) im_LB_refresh sp_LB_refresh rfl hl.1 rfl (Nat.le_of_ble_eq_true rfl) d_LB_first_15 ⟨Nat.zero_le _, Nat.zero_le _⟩ (fun H locs h => ?_)
    refine lv_aload_n hx hb d_LB_first_18 rfl (lv_at hl 0 rfl) ?_
    refine cg_0_5 hx hb hT hown hK h.1 fl_LB_37 d_LB_first_19 ?_
    refine lv_iload_n hx hb d_LB_first_22 rfl (lv_at hl 1 rfl) ?_
    refine lv_iconst (v := 0) hx hb d_LB_first_23 (by decide) ?_
    refine lv_iconst (v := 0) hx hb d_LB_first_24 (by decide) ?_
    obtain ⟨⟨F11, G12, P13, N14⟩, hc9, hf⟩ := op_bind hf
    try dsimp only at hf
    refine kx_v (C0 := R_Se) (b0 := ad 4) (rest := []) C h hA rfl (va_recv hK h.1 (ci := 6) (q0 := 4) rfl rfl) (c_Se_measureTo l n E v1 0 0 F5 G6 P7 N8) hc9 (cbW 3 hT cd_Se_measureTo rfl rfl ini_Se ml_LB_142 hd_Se_measureTo ⟨Nat.le_of_ble_eq_true rfl, Nat.le_of_ble_eq_true rfl⟩) im_Se_measureTo se_Se_Se_measureTo__Se_measureTo rfl hl.1 rfl (Nat.le_of_ble_eq_true rfl) d_LB_first_25 ⟨Nat.zero_le _, Nat.zero_le _⟩ (fun H locs h => ?_)
    refine lv_aload_n hx hb d_LB_first_28 rfl (lv_at hl 0 rfl) ?_
    refine cg_0_5 hx hb hT hown hK h.1 fl_LB_37 d_LB_first_29 ?_
    refine lv_aload_n hx hb d_LB_first_32 rfl (lv_at hl 0 rfl) ?_
    refine cg_0_0 hx hb hT hown hK h.1 fl_LB_12 d_LB_first_33 ?_
    obtain ⟨x16, hc15, hf⟩ := op_bind hf
    refine kr_i (C := R_St) (b0 := ad 1) (rest := [.ref (ad 4)]) hx hb hml hown hT cB_bl (cB_to hK h.1 (cpS hpS h) hi) (va_recv hK h.1 (ci := 7) (q0 := 1) rfl rfl) (c_St_place l n E F11 G12 P13 N14 dC dI ad cI cZ cW cJ  _ hc15) (cbW 0 hT cd_St_place rfl rfl ini_St ml_LB_146 hd_St_place ⟨Nat.le_of_ble_eq_true rfl, Nat.le_of_ble_eq_true rfl⟩) im_St_place se_St_St_place__St_place rfl hl.1 rfl (Nat.le_of_ble_eq_true rfl) d_LB_first_36 ⟨Nat.zero_le _, Nat.zero_le _⟩ ?_
    obtain ⟨x18, hc17, hf⟩ := op_bind hf
    refine kr_i (C := R_Se) (b0 := ad 4) (rest := []) hx hb hml hown hT cB_bl (cB_to hK h.1 (cpS hpS h) hi) (va_recv hK h.1 (ci := 6) (q0 := 4) rfl rfl) (c_Se_firstSetAt l n E F11 G12 P13 N14 dC dI ad cI cZ cW cJ x16 _ hc17) (cbW 1 hT cd_Se_firstSetAt rfl rfl ini_Se ml_LB_153 hd_Se_firstSetAt ⟨Nat.le_of_ble_eq_true rfl, Nat.le_of_ble_eq_true rfl⟩) im_Se_firstSetAt se_Se_Se_firstSetAt__Se_firstSetAt rfl hl.1 rfl (Nat.le_of_ble_eq_true rfl) d_LB_first_39 ⟨Nat.zero_le _, Nat.zero_le _⟩ ?_
    exact rt_ci C h hr hlk hf rfl d_LB_first_42
  · have hf := op_t hc hf
    refine lv_bipush (v := (-2)) hx hb d_LB_first_11 (by decide) ?_
    exact rt_ci C h hr hlk hf rfl d_LB_first_13
theorem hd_LB_by : y_LB_by.cls ≠ "java/lang/invoke/MethodHandle" ∧ y_LB_by.cls ≠ "java/lang/invoke/VarHandle" ∧ (parseMethodDescriptor y_LB_by.desc).map (fun d => d.parameters.length) = some 2 := by decide +kernel
theorem d_LB_by_0 : decode b_LB_by 0 = .ok (.iload_n 2, 1) := by decide +kernel
theorem d_LB_by_1 : decode b_LB_by 1 = .ok (.ifCond .lt 8, 3) := by decide +kernel
theorem d_LB_by_4 : decode b_LB_by 4 = .ok (.iload_n 2, 1) := by decide +kernel
theorem d_LB_by_5 : decode b_LB_by 5 = .ok (.iconst 1, 1) := by decide +kernel
theorem d_LB_by_6 : decode b_LB_by 6 = .ok (.if_icmp .le 5, 3) := by decide +kernel
theorem d_LB_by_9 : decode b_LB_by 9 = .ok (.iconst (-1), 1) := by decide +kernel
theorem d_LB_by_10 : decode b_LB_by 10 = .ok (.ireturn, 1) := by decide +kernel
theorem d_LB_by_11 : decode b_LB_by 11 = .ok (.iload_n 1, 1) := by decide +kernel
theorem d_LB_by_12 : decode b_LB_by 12 = .ok (.ifCond .lt 10, 3) := by decide +kernel
theorem d_LB_by_15 : decode b_LB_by 15 = .ok (.iload_n 1, 1) := by decide +kernel
theorem d_LB_by_16 : decode b_LB_by 16 = .ok (.sipush 999, 3) := by decide +kernel
theorem d_LB_by_19 : decode b_LB_by 19 = .ok (.if_icmp .le 6, 3) := by decide +kernel
theorem d_LB_by_22 : decode b_LB_by 22 = .ok (.bipush (-2), 2) := by decide +kernel
theorem d_LB_by_24 : decode b_LB_by 24 = .ok (.ireturn, 1) := by decide +kernel
theorem d_LB_by_25 : decode b_LB_by 25 = .ok (.aload_n 0, 1) := by decide +kernel
theorem d_LB_by_26 : decode b_LB_by 26 = .ok (.invokevirtual 125, 3) := by decide +kernel
theorem d_LB_by_29 : decode b_LB_by 29 = .ok (.aload_n 0, 1) := by decide +kernel
theorem d_LB_by_30 : decode b_LB_by 30 = .ok (.getfield 37, 3) := by decide +kernel
theorem d_LB_by_33 : decode b_LB_by 33 = .ok (.aload_n 0, 1) := by decide +kernel
theorem d_LB_by_34 : decode b_LB_by 34 = .ok (.getfield 12, 3) := by decide +kernel
theorem d_LB_by_37 : decode b_LB_by 37 = .ok (.invokevirtual 146, 3) := by decide +kernel
theorem d_LB_by_40 : decode b_LB_by 40 = .ok (.invokevirtual 156, 3) := by decide +kernel
theorem d_LB_by_43 : decode b_LB_by 43 = .ok (.aload_n 0, 1) := by decide +kernel
theorem d_LB_by_44 : decode b_LB_by 44 = .ok (.getfield 37, 3) := by decide +kernel
theorem d_LB_by_47 : decode b_LB_by 47 = .ok (.iload_n 1, 1) := by decide +kernel
theorem d_LB_by_48 : decode b_LB_by 48 = .ok (.invokevirtual 160, 3) := by decide +kernel
theorem d_LB_by_51 : decode b_LB_by 51 = .ok (.istore_n 3, 1) := by decide +kernel
theorem d_LB_by_52 : decode b_LB_by 52 = .ok (.iload_n 2, 1) := by decide +kernel
theorem d_LB_by_53 : decode b_LB_by 53 = .ok (.ifCond .ne 10, 3) := by decide +kernel
theorem d_LB_by_56 : decode b_LB_by 56 = .ok (.iload_n 3, 1) := by decide +kernel
theorem d_LB_by_57 : decode b_LB_by 57 = .ok (.invokestatic 163, 3) := by decide +kernel
theorem d_LB_by_60 : decode b_LB_by 60 = .ok (.goto 4, 3) := by decide +kernel
theorem d_LB_by_63 : decode b_LB_by 63 = .ok (.iload_n 3, 1) := by decide +kernel
theorem d_LB_by_64 : decode b_LB_by 64 = .ok (.ireturn, 1) := by decide +kernel
def p_LB_by (n : Nat) (E : PE) (v1 : Int32) (v2 : Int32) (F : Nat → Nat → Int32) (G : Nat → Nat → Int32) (P : Nat → Nat → Option Nat) (N : Nat → Nat) : Option (Int32 × CU) := (if v2 < 0 then some ((-1), F, G, P, N) else (if v2 ≤ 1 then (if v1 < 0 then some ((-2), F, G, P, N) else (if v1 ≤ 999 then (p_LB_refresh n E F G P N).bind fun (F3, G4, P5, N6) => (p_St_place n E F3 G4 P5 N6 ).bind fun x8 => (p_Se_measureFrom n E x8 F3 G4 P5 N6).bind fun (F11, G12, P13, N14) => (p_Se_mostOver n E F11 G12 P13 N14 v1).bind fun x16 => (if v2 = 0 then (p_Integer_bitCount n x16).bind fun x20 => some x20 else some x16 : Option (Int32)).bind fun x18 => some (x18, F11, G12, P13, N14) else some ((-2), F, G, P, N))) else some ((-1), F, G, P, N)))
set_option maxHeartbeats 4000000 in
theorem c_LB_by (l : Launch) (n : Nat) (E : PE) (v1 : Int32) (v2 : Int32) (F : Nat → Nat → Int32) (G : Nat → Nat → Int32) (P : Nat → Nat → Option Nat) (N : Nat → Nat)  : CMi l y_LB_by b_LB_by 4 .int (rL 16) E (fun ad => [.ref (ad 0), .int v1, .int v2]) F G P N (p_LB_by n E v1 v2 F G P N) := by
  refine en_ci (by decide) (fun _ => Nat.le_of_ble_eq_true rfl) ?_
  intro z hf p e s m args below meth c dC dI ad cI cZ cW cJ A adK adV ls C hA h hr hlk hl
  have hl : lv_has ls 4 [(0, .ref (ad 0)), (1, .int v1), (2, .int v2)] := hl
  unfold p_LB_by at hf
  obtain ⟨hx, hb, hml, hown, hT, hK, hTS, hTR, hpS, hi⟩ := id C
  refine lv_iload_n hx hb d_LB_by_0 rfl (lv_at hl 2 rfl) ?_
  refine lv_if_lt (tgt := 9) hx hb d_LB_by_1 (by decide) (fun hc => ?_) (fun hc => ?_)
  · have hf := op_t hc hf
    refine lv_iconst (v := (-1)) hx hb d_LB_by_9 (by decide) ?_
    exact rt_ci C h hr hlk hf rfl d_LB_by_10
  · have hf := op_f hc hf
    refine lv_iload_n hx hb d_LB_by_4 rfl (lv_at hl 2 rfl) ?_
    refine lv_iconst (v := 1) hx hb d_LB_by_5 (by decide) ?_
    refine lv_icmp_le (tgt := 11) hx hb d_LB_by_6 (by decide) (fun hc => ?_) (fun hc => ?_)
    · have hf := op_t hc hf
      refine lv_iload_n hx hb d_LB_by_11 rfl (lv_at hl 1 rfl) ?_
      refine lv_if_lt (tgt := 22) hx hb d_LB_by_12 (by decide) (fun hc => ?_) (fun hc => ?_)
      · have hf := op_t hc hf
        refine lv_bipush (v := (-2)) hx hb d_LB_by_22 (by decide) ?_
        exact rt_ci C h hr hlk hf rfl d_LB_by_24
      · have hf := op_f hc hf
        refine lv_iload_n hx hb d_LB_by_15 rfl (lv_at hl 1 rfl) ?_
        refine lv_sipush (v := 999) hx hb d_LB_by_16 (by decide) ?_
        refine lv_icmp_le (tgt := 25) hx hb d_LB_by_19 (by decide) (fun hc => ?_) (fun hc => ?_)
        · have hf := op_t hc hf
          refine lv_aload_n hx hb d_LB_by_25 rfl (lv_at hl 0 rfl) ?_
          obtain ⟨⟨F3, G4, P5, N6⟩, hc1, hf⟩ := op_bind hf
          try dsimp only at hf
          refine kx_v (C0 := R_LB) (b0 := ad 0) (rest := []) C h hA rfl (va_recv hK h.1 (ci := 11) (q0 := 0) rfl rfl) (c_LB_refresh l n E  F G P N) hc1 (cbW 0 hT cd_LB_refresh rfl rfl ini_LB ml_LB_125 hd_LB_refresh ⟨Nat.le_of_ble_eq_true rfl, Nat.le_of_ble_eq_true rfl⟩) im_LB_refresh sp_LB_refresh rfl hl.1 rfl (Nat.le_of_ble_eq_true rfl) d_LB_by_26 ⟨Nat.zero_le _, Nat.zero_le _⟩ (fun H locs h => ?_)
          refine lv_aload_n hx hb d_LB_by_29 rfl (lv_at hl 0 rfl) ?_
          refine cg_0_5 hx hb hT hown hK h.1 fl_LB_37 d_LB_by_30 ?_
          refine lv_aload_n hx hb d_LB_by_33 rfl (lv_at hl 0 rfl) ?_
          refine cg_0_0 hx hb hT hown hK h.1 fl_LB_12 d_LB_by_34 ?_
          obtain ⟨x8, hc7, hf⟩ := op_bind hf
          refine kr_i (C := R_St) (b0 := ad 1) (rest := [.ref (ad 4)]) hx hb hml hown hT cB_bl (cB_to hK h.1 (cpS hpS h) hi) (va_recv hK h.1 (ci := 7) (q0 := 1) rfl rfl) (c_St_place l n E F3 G4 P5 N6 dC dI ad cI cZ cW cJ  _ hc7) (cbW 0 hT cd_St_place rfl rfl ini_St ml_LB_146 hd_St_place ⟨Nat.le_of_ble_eq_true rfl, Nat.le_of_ble_eq_true rfl⟩) im_St_place se_St_St_place__St_place rfl hl.1 rfl (Nat.le_of_ble_eq_true rfl) d_LB_by_37 ⟨Nat.zero_le _, Nat.zero_le _⟩ ?_
          obtain ⟨⟨F11, G12, P13, N14⟩, hc9, hf⟩ := op_bind hf
          try dsimp only at hf
          refine kx_v (C0 := R_Se) (b0 := ad 4) (rest := []) C h hA rfl (va_recv hK h.1 (ci := 6) (q0 := 4) rfl rfl) (c_Se_measureFrom l n E x8 F3 G4 P5 N6) hc9 (cbW 1 hT cd_Se_measureFrom rfl rfl ini_Se ml_LB_156 hd_Se_measureFrom ⟨Nat.le_of_ble_eq_true rfl, Nat.le_of_ble_eq_true rfl⟩) im_Se_measureFrom se_Se_Se_measureFrom__Se_measureFrom rfl hl.1 rfl (Nat.le_of_ble_eq_true rfl) d_LB_by_40 ⟨Nat.zero_le _, Nat.zero_le _⟩ (fun H locs h => ?_)
          refine lv_aload_n hx hb d_LB_by_43 rfl (lv_at hl 0 rfl) ?_
          refine cg_0_5 hx hb hT hown hK h.1 fl_LB_37 d_LB_by_44 ?_
          refine lv_iload_n hx hb d_LB_by_47 rfl (lv_at hl 1 rfl) ?_
          obtain ⟨x16, hc15, hf⟩ := op_bind hf
          refine kr_i (C := R_Se) (b0 := ad 4) (rest := []) hx hb hml hown hT cB_bl (cB_to hK h.1 (cpS hpS h) hi) (va_recv hK h.1 (ci := 6) (q0 := 4) rfl rfl) (c_Se_mostOver l n E F11 G12 P13 N14 dC dI ad cI cZ cW cJ v1 _ hc15) (cbW 1 hT cd_Se_mostOver rfl rfl ini_Se ml_LB_160 hd_Se_mostOver ⟨Nat.le_of_ble_eq_true rfl, Nat.le_of_ble_eq_true rfl⟩) im_Se_mostOver se_Se_Se_mostOver__Se_mostOver rfl hl.1 rfl (Nat.le_of_ble_eq_true rfl) d_LB_by_48 ⟨Nat.zero_le _, Nat.zero_le _⟩ ?_
          refine lv_istore_n (lv' := [(3, .int x16), (0, .ref (ad 0)), (1, .int v1), (2, .int v2)]) hx hb d_LB_by_51 rfl hl (by decide) rfl (fun ls hl => ?_)
          refine lv_iload_n hx hb d_LB_by_52 rfl (lv_at hl 3 rfl) ?_
          obtain ⟨x18, he, hf⟩ := op_bind hf
          have K17 : ∀ (ls : Array Slot), lv_has ls 4 [] → ∀ (H : Heap) (locs : List Loc), cH A s.heap dC dI ad cI cZ cW cJ F11 G12 P13 N14 H locs → W p l e (rL 16) s m args below meth c H locs 0 0 (cQi dC dI ad cI cZ cW cJ A below args s z) (F0 m 64 ls [.int x18]) := by
            intro ls hl H locs h
            exact rt_ci C h hr hlk hf rfl d_LB_by_64
          have hf := he
          refine lv_if_ne (tgt := 63) hx hb d_LB_by_53 (by decide) (fun hc => ?_) (fun hc => ?_)
          · have hf := op_f hc hf
            refine lv_iload_n hx hb d_LB_by_63 rfl (lv_at hl 0 rfl) ?_
            obtain rfl := op_i1 hf
            exact K17 ls (lv_sub hl [] rfl) H locs h
          · have hf := op_t hc hf
            refine lv_iload_n hx hb d_LB_by_56 rfl (lv_at hl 0 rfl) ?_
            obtain ⟨x20, hc19, hf⟩ := op_bind hf
            refine ks_i (rest := []) hx hb hml hown hT (c_Integer_bitCount l n x16 _ hc19) (cbW 1 hT cd_Integer_bitCount rfl rfl ini_Integer ml_LB_163 hd_Integer_bitCount ⟨Nat.le_of_ble_eq_true rfl, Nat.le_of_ble_eq_true rfl⟩) sm_Integer_bitCount rfl hl.1 rfl (Nat.le_of_ble_eq_true rfl) d_LB_by_57 ⟨Nat.zero_le _, Nat.zero_le _⟩ ?_
            refine lv_goto (tgt := 64) hx hb d_LB_by_60 (by decide) ?_
            obtain rfl := op_i1 hf
            exact K17 ls (lv_sub hl [] rfl) H locs h
        · have hf := op_f hc hf
          refine lv_bipush (v := (-2)) hx hb d_LB_by_22 (by decide) ?_
          exact rt_ci C h hr hlk hf rfl d_LB_by_24
    · have hf := op_f hc hf
      refine lv_iconst (v := (-1)) hx hb d_LB_by_9 (by decide) ?_
      exact rt_ci C h hr hlk hf rfl d_LB_by_10
theorem hd_LB_leave : y_LB_leave.cls ≠ "java/lang/invoke/MethodHandle" ∧ y_LB_leave.cls ≠ "java/lang/invoke/VarHandle" ∧ (parseMethodDescriptor y_LB_leave.desc).map (fun d => d.parameters.length) = some 0 := by decide +kernel
theorem d_LB_leave_0 : decode b_LB_leave 0 = .ok (.aload_n 0, 1) := by decide +kernel
theorem d_LB_leave_1 : decode b_LB_leave 1 = .ok (.invokevirtual 125, 3) := by decide +kernel
theorem d_LB_leave_4 : decode b_LB_leave 4 = .ok (.bipush (-5), 2) := by decide +kernel
theorem d_LB_leave_6 : decode b_LB_leave 6 = .ok (.istore_n 1, 1) := by decide +kernel
theorem d_LB_leave_7 : decode b_LB_leave 7 = .ok (.iconst 0, 1) := by decide +kernel
theorem d_LB_leave_8 : decode b_LB_leave 8 = .ok (.istore_n 2, 1) := by decide +kernel
theorem d_LB_leave_9 : decode b_LB_leave 9 = .ok (.iconst 0, 1) := by decide +kernel
theorem d_LB_leave_10 : decode b_LB_leave 10 = .ok (.istore_n 3, 1) := by decide +kernel
theorem d_LB_leave_11 : decode b_LB_leave 11 = .ok (.iload_n 3, 1) := by decide +kernel
theorem d_LB_leave_12 : decode b_LB_leave 12 = .ok (.aload_n 0, 1) := by decide +kernel
theorem d_LB_leave_13 : decode b_LB_leave 13 = .ok (.getfield 12, 3) := by decide +kernel
theorem d_LB_leave_16 : decode b_LB_leave 16 = .ok (.getfield 68, 3) := by decide +kernel
theorem d_LB_leave_19 : decode b_LB_leave 19 = .ok (.if_icmp .ge 61, 3) := by decide +kernel
theorem d_LB_leave_22 : decode b_LB_leave 22 = .ok (.iconst 1, 1) := by decide +kernel
theorem d_LB_leave_23 : decode b_LB_leave 23 = .ok (.iload_n 3, 1) := by decide +kernel
theorem d_LB_leave_24 : decode b_LB_leave 24 = .ok (.ishl, 1) := by decide +kernel
theorem d_LB_leave_25 : decode b_LB_leave 25 = .ok (.istore 4, 2) := by decide +kernel
theorem d_LB_leave_27 : decode b_LB_leave 27 = .ok (.aload_n 0, 1) := by decide +kernel
theorem d_LB_leave_28 : decode b_LB_leave 28 = .ok (.aload_n 0, 1) := by decide +kernel
theorem d_LB_leave_29 : decode b_LB_leave 29 = .ok (.getfield 12, 3) := by decide +kernel
theorem d_LB_leave_32 : decode b_LB_leave 32 = .ok (.invokevirtual 168, 3) := by decide +kernel
theorem d_LB_leave_35 : decode b_LB_leave 35 = .ok (.iload 4, 2) := by decide +kernel
theorem d_LB_leave_37 : decode b_LB_leave 37 = .ok (.iconst (-1), 1) := by decide +kernel
theorem d_LB_leave_38 : decode b_LB_leave 38 = .ok (.ixor, 1) := by decide +kernel
theorem d_LB_leave_39 : decode b_LB_leave 39 = .ok (.iand, 1) := by decide +kernel
theorem d_LB_leave_40 : decode b_LB_leave 40 = .ok (.iload 4, 2) := by decide +kernel
theorem d_LB_leave_42 : decode b_LB_leave 42 = .ok (.invokevirtual 139, 3) := by decide +kernel
theorem d_LB_leave_45 : decode b_LB_leave 45 = .ok (.istore 5, 2) := by decide +kernel
theorem d_LB_leave_47 : decode b_LB_leave 47 = .ok (.iload 5, 2) := by decide +kernel
theorem d_LB_leave_49 : decode b_LB_leave 49 = .ok (.bipush (-5), 2) := by decide +kernel
theorem d_LB_leave_51 : decode b_LB_leave 51 = .ok (.if_icmp .ne 6, 3) := by decide +kernel
theorem d_LB_leave_54 : decode b_LB_leave 54 = .ok (.goto 20, 3) := by decide +kernel
theorem d_LB_leave_57 : decode b_LB_leave 57 = .ok (.iload_n 1, 1) := by decide +kernel
theorem d_LB_leave_58 : decode b_LB_leave 58 = .ok (.bipush (-5), 2) := by decide +kernel
theorem d_LB_leave_60 : decode b_LB_leave 60 = .ok (.if_icmp .eq 9, 3) := by decide +kernel
theorem d_LB_leave_63 : decode b_LB_leave 63 = .ok (.iload 5, 2) := by decide +kernel
theorem d_LB_leave_65 : decode b_LB_leave 65 = .ok (.iload_n 2, 1) := by decide +kernel
theorem d_LB_leave_66 : decode b_LB_leave 66 = .ok (.if_icmp .ge 8, 3) := by decide +kernel
theorem d_LB_leave_69 : decode b_LB_leave 69 = .ok (.iload_n 3, 1) := by decide +kernel
theorem d_LB_leave_70 : decode b_LB_leave 70 = .ok (.istore_n 1, 1) := by decide +kernel
theorem d_LB_leave_71 : decode b_LB_leave 71 = .ok (.iload 5, 2) := by decide +kernel
theorem d_LB_leave_73 : decode b_LB_leave 73 = .ok (.istore_n 2, 1) := by decide +kernel
theorem d_LB_leave_74 : decode b_LB_leave 74 = .ok (.iinc 3 1, 3) := by decide +kernel
theorem d_LB_leave_77 : decode b_LB_leave 77 = .ok (.goto (-66), 3) := by decide +kernel
theorem d_LB_leave_80 : decode b_LB_leave 80 = .ok (.iload_n 1, 1) := by decide +kernel
theorem d_LB_leave_81 : decode b_LB_leave 81 = .ok (.ireturn, 1) := by decide +kernel
def l_LB_leave_11 (n : Nat) (E : PE)    : Nat → Int32 → Int32 → Int32 → (Nat → Nat → Int32) → (Nat → Nat → Int32) → (Nat → Nat → Option Nat) → (Nat → Nat) → Option (Int32 × (Nat → Nat → Int32) × (Nat → Nat → Int32) × (Nat → Nat → Option Nat) × (Nat → Nat))
  | 0, _, _, _, _, _, _, _ => none
  | k + 1, v1, v2, v3, F, G, P, N => (if (F 1 5) ≤ v3 then some (v1, F, G, P, N) else (p_St_everybody n E F G P N ).bind fun x8 => (p_LB_leastFor n E ((x8 &&& ((1 <<< (v3 &&& 31)) ^^^ (-1)))) (1 <<< (v3 &&& 31)) F G P N).bind fun (x10, F11, G12, P13, N14) => (if x10 = (-5) then some (v1, v2) else (if v1 = (-5) then some (v3, x10) else (if v2 ≤ x10 then some (v1, v2) else some (v3, x10))) : Option (Int32 × Int32)).bind fun (x16, x17) => l_LB_leave_11 n E k x16 x17 (v3 + 1) F11 G12 P13 N14)
set_option maxHeartbeats 4000000 in
theorem wl_LB_leave_11 {Q : State → Prop}  {p : Program} {l : Launch} {e : Env} {s : State} {m : MethodId} {args : Array Value} {below : List Frame} {meth : Method} {c : Code} {dC : Nat → ClassId} {dI : Nat → Nat → Nat} {ad : Nat → Nat} {cI cZ cW cJ : ClassId} {A : Nat → Prop} {adK adV : Nat → Nat} {E : PE} (C : cC p s m args c b_LB_leave 6 "LanternBridge" dC dI cI cZ cW cJ A adK adV E) (hA : ∀ q, s.heap.size ≤ q → A q) (hr : meth.sig.returnType = some .int) (hlk : meth.locks = false) (n : Nat)    : ∀ (k : Nat) (v1 : Int32) (v2 : Int32) (v3 : Int32) (F : Nat → Nat → Int32) (G : Nat → Nat → Int32) (P : Nat → Nat → Option Nat) (N : Nat → Nat) (r0 : Int32) (r1 : Nat → Nat → Int32) (r2 : Nat → Nat → Int32) (r3 : Nat → Nat → Option Nat) (r4 : Nat → Nat), l_LB_leave_11 n E k v1 v2 v3 F G P N = some (r0, r1, r2, r3, r4) → (∀ (ls : Array Slot), lv_has ls 6 [(1, .int r0)] → ∀ (H : Heap) (locs : List Loc), cH A s.heap dC dI ad cI cZ cW cJ r1 r2 r3 r4 H locs → W p l e (rL 16) s m args below meth c H locs 0 0 Q (F0 m 80 ls [])) → ∀ (ls : Array Slot), lv_has ls 6 [(0, .ref (ad 0)), (1, .int v1), (2, .int v2), (3, .int v3)] → ∀ (H : Heap) (locs : List Loc), cH A s.heap dC dI ad cI cZ cW cJ F G P N H locs → W p l e (rL 16) s m args below meth c H locs 0 0 Q (F0 m 11 ls []) := by
  obtain ⟨hx, hb, hml, hown, hT, hK, hTS, hTR, hpS, hi⟩ := id C
  intro k
  induction k with
  | zero => intro v1 v2 v3 F G P N r0 r1 r2 r3 r4 hf; exact absurd hf (by unfold l_LB_leave_11; exact fun h9 => by cases h9)
  | succ k ih =>
    intro v1 v2 v3 F G P N r0 r1 r2 r3 r4 hf K ls hl H locs h
    unfold l_LB_leave_11 at hf
    refine lv_iload_n hx hb d_LB_leave_11 rfl (lv_at hl 3 rfl) ?_
    refine lv_aload_n hx hb d_LB_leave_12 rfl (lv_at hl 0 rfl) ?_
    refine cg_0_0 hx hb hT hown hK h.1 fl_LB_12 d_LB_leave_13 ?_
    refine cg_1_5 hx hb hT hown hK h.1 fl_LB_68 d_LB_leave_16 ?_
    refine lv_icmp_ge (tgt := 80) hx hb d_LB_leave_19 (by decide) (fun hc => ?_) (fun hc => ?_)
    · have hf := op_t hc hf
      obtain ⟨rfl, rfl, rfl, rfl, rfl⟩ := op_i5 hf
      exact K ls (lv_sub hl [1] rfl) H locs h
    · have hf := op_f hc hf
      refine lv_iconst (v := 1) hx hb d_LB_leave_22 (by decide) ?_
      refine lv_iload_n hx hb d_LB_leave_23 rfl (lv_at hl 3 rfl) ?_
      refine lv_ishl hx hb d_LB_leave_24 ?_
      refine lv_istore (lv' := [(4, .int (1 <<< (v3 &&& 31))), (0, .ref (ad 0)), (1, .int v1), (2, .int v2), (3, .int v3)]) hx hb d_LB_leave_25 hl (by decide) rfl (fun ls hl => ?_)
      refine lv_aload_n hx hb d_LB_leave_27 rfl (lv_at hl 1 rfl) ?_
      refine lv_aload_n hx hb d_LB_leave_28 rfl (lv_at hl 1 rfl) ?_
      refine cg_0_0 hx hb hT hown hK h.1 fl_LB_12 d_LB_leave_29 ?_
      obtain ⟨x8, hc7, hf⟩ := op_bind hf
      refine kr_i (C := R_St) (b0 := ad 1) (rest := [.ref (ad 0)]) hx hb hml hown hT cB_bl (cB_to hK h.1 (cpS hpS h) hi) (va_recv hK h.1 (ci := 7) (q0 := 1) rfl rfl) (c_St_everybody l n E F G P N dC dI ad cI cZ cW cJ  _ hc7) (cbW 0 hT cd_St_everybody rfl rfl ini_St ml_LB_168 hd_St_everybody ⟨Nat.le_of_ble_eq_true rfl, Nat.le_of_ble_eq_true rfl⟩) im_St_everybody se_St_St_everybody__St_everybody rfl hl.1 rfl (Nat.le_of_ble_eq_true rfl) d_LB_leave_32 ⟨Nat.zero_le _, Nat.zero_le _⟩ ?_
      refine lv_iload hx hb d_LB_leave_35 (lv_at hl 0 rfl) ?_
      refine lv_iconst (v := (-1)) hx hb d_LB_leave_37 (by decide) ?_
      refine lv_ixor hx hb d_LB_leave_38 ?_
      refine lv_iand hx hb d_LB_leave_39 ?_
      refine lv_iload hx hb d_LB_leave_40 (lv_at hl 0 rfl) ?_
      obtain ⟨⟨x10, F11, G12, P13, N14⟩, hc9, hf⟩ := op_bind hf
      try dsimp only at hf
      refine kx_i (C0 := R_LB) (b0 := ad 0) (rest := []) C h hA rfl (va_recv hK h.1 (ci := 11) (q0 := 0) rfl rfl) (c_LB_leastFor l n E ((x8 &&& ((1 <<< (v3 &&& 31)) ^^^ (-1)))) (1 <<< (v3 &&& 31)) F G P N) hc9 (cbW 2 hT cd_LB_leastFor rfl rfl ini_LB ml_LB_139 hd_LB_leastFor ⟨Nat.le_of_ble_eq_true rfl, Nat.le_of_ble_eq_true rfl⟩) im_LB_leastFor sp_LB_leastFor rfl hl.1 rfl (Nat.le_of_ble_eq_true rfl) d_LB_leave_42 ⟨Nat.zero_le _, Nat.zero_le _⟩ (fun H locs h => ?_)
      refine lv_istore (lv' := [(5, .int x10), (4, .int (1 <<< (v3 &&& 31))), (0, .ref (ad 0)), (1, .int v1), (2, .int v2), (3, .int v3)]) hx hb d_LB_leave_45 hl (by decide) rfl (fun ls hl => ?_)
      refine lv_iload hx hb d_LB_leave_47 (lv_at hl 0 rfl) ?_
      refine lv_bipush (v := (-5)) hx hb d_LB_leave_49 (by decide) ?_
      obtain ⟨⟨x16, x17⟩, he, hf⟩ := op_bind hf
      try dsimp only at hf
      have K15 : ∀ (ls : Array Slot), lv_has ls 6 [(0, .ref (ad 0)), (1, .int x16), (2, .int x17), (3, .int v3)] → ∀ (H : Heap) (locs : List Loc), cH A s.heap dC dI ad cI cZ cW cJ F11 G12 P13 N14 H locs → W p l e (rL 16) s m args below meth c H locs 0 0 Q (F0 m 74 ls []) := by
        intro ls hl H locs h
        refine lv_iinc (v := (v3 + 1)) (lv' := [(3, .int (v3 + 1)), (0, .ref (ad 0)), (1, .int x16), (2, .int x17)]) hx hb d_LB_leave_74 hl (k := 3) rfl rfl (by decide) rfl (fun ls hl => ?_)
        refine lv_goto (tgt := 11) hx hb d_LB_leave_77 (by decide) ?_
        exact ih x16 x17 (v3 + 1) F11 G12 P13 N14 _ _ _ _ _ hf K ls (lv_sub hl [1, 2, 3, 0] rfl) H locs h
      have hf := he
      refine lv_icmp_ne (tgt := 57) hx hb d_LB_leave_51 (by decide) (fun hc => ?_) (fun hc => ?_)
      · have hf := op_f hc hf
        refine lv_iload_n hx hb d_LB_leave_57 rfl (lv_at hl 3 rfl) ?_
        refine lv_bipush (v := (-5)) hx hb d_LB_leave_58 (by decide) ?_
        refine lv_icmp_eq (tgt := 69) hx hb d_LB_leave_60 (by decide) (fun hc => ?_) (fun hc => ?_)
        · have hf := op_t hc hf
          refine lv_iload_n hx hb d_LB_leave_69 rfl (lv_at hl 5 rfl) ?_
          refine lv_istore_n (lv' := [(1, .int v3), (5, .int x10), (4, .int (1 <<< (v3 &&& 31))), (0, .ref (ad 0)), (2, .int v2), (3, .int v3)]) hx hb d_LB_leave_70 rfl hl (by decide) rfl (fun ls hl => ?_)
          refine lv_iload hx hb d_LB_leave_71 (lv_at hl 1 rfl) ?_
          refine lv_istore_n (lv' := [(2, .int x10), (1, .int v3), (5, .int x10), (4, .int (1 <<< (v3 &&& 31))), (0, .ref (ad 0)), (3, .int v3)]) hx hb d_LB_leave_73 rfl hl (by decide) rfl (fun ls hl => ?_)
          obtain ⟨rfl, rfl⟩ := op_i2 hf
          exact K15 ls (lv_sub hl [4, 1, 0, 5] rfl) H locs h
        · have hf := op_f hc hf
          refine lv_iload hx hb d_LB_leave_63 (lv_at hl 0 rfl) ?_
          refine lv_iload_n hx hb d_LB_leave_65 rfl (lv_at hl 4 rfl) ?_
          refine lv_icmp_ge (tgt := 74) hx hb d_LB_leave_66 (by decide) (fun hc => ?_) (fun hc => ?_)
          · have hf := op_t hc hf
            obtain ⟨rfl, rfl⟩ := op_i2 hf
            exact K15 ls (lv_sub hl [2, 3, 4, 5] rfl) H locs h
          · have hf := op_f hc hf
            refine lv_iload_n hx hb d_LB_leave_69 rfl (lv_at hl 5 rfl) ?_
            refine lv_istore_n (lv' := [(1, .int v3), (5, .int x10), (4, .int (1 <<< (v3 &&& 31))), (0, .ref (ad 0)), (2, .int v2), (3, .int v3)]) hx hb d_LB_leave_70 rfl hl (by decide) rfl (fun ls hl => ?_)
            refine lv_iload hx hb d_LB_leave_71 (lv_at hl 1 rfl) ?_
            refine lv_istore_n (lv' := [(2, .int x10), (1, .int v3), (5, .int x10), (4, .int (1 <<< (v3 &&& 31))), (0, .ref (ad 0)), (3, .int v3)]) hx hb d_LB_leave_73 rfl hl (by decide) rfl (fun ls hl => ?_)
            obtain ⟨rfl, rfl⟩ := op_i2 hf
            exact K15 ls (lv_sub hl [4, 1, 0, 5] rfl) H locs h
      · have hf := op_t hc hf
        refine lv_goto (tgt := 74) hx hb d_LB_leave_54 (by decide) ?_
        obtain ⟨rfl, rfl⟩ := op_i2 hf
        exact K15 ls (lv_sub hl [2, 3, 4, 5] rfl) H locs h
def p_LB_leave (n : Nat) (E : PE)  (F : Nat → Nat → Int32) (G : Nat → Nat → Int32) (P : Nat → Nat → Option Nat) (N : Nat → Nat) : Option (Int32 × CU) := (p_LB_refresh n E F G P N).bind fun (F3, G4, P5, N6) => (l_LB_leave_11 n E n (-5) 0 0 F3 G4 P5 N6).bind fun (y18, F19, G20, P21, N22) => some (y18, F19, G20, P21, N22)
set_option maxHeartbeats 4000000 in
theorem c_LB_leave (l : Launch) (n : Nat) (E : PE)  (F : Nat → Nat → Int32) (G : Nat → Nat → Int32) (P : Nat → Nat → Option Nat) (N : Nat → Nat)  : CMi l y_LB_leave b_LB_leave 6 .int (rL 16) E (fun ad => [.ref (ad 0)]) F G P N (p_LB_leave n E F G P N) := by
  refine en_ci (by decide) (fun _ => Nat.le_of_ble_eq_true rfl) ?_
  intro z hf p e s m args below meth c dC dI ad cI cZ cW cJ A adK adV ls C hA h hr hlk hl
  have hl : lv_has ls 6 [(0, .ref (ad 0))] := hl
  unfold p_LB_leave at hf
  obtain ⟨hx, hb, hml, hown, hT, hK, hTS, hTR, hpS, hi⟩ := id C
  refine lv_aload_n hx hb d_LB_leave_0 rfl (lv_at hl 0 rfl) ?_
  obtain ⟨⟨F3, G4, P5, N6⟩, hc1, hf⟩ := op_bind hf
  try dsimp only at hf
  refine kx_v (C0 := R_LB) (b0 := ad 0) (rest := []) C h hA rfl (va_recv hK h.1 (ci := 11) (q0 := 0) rfl rfl) (c_LB_refresh l n E  F G P N) hc1 (cbW 0 hT cd_LB_refresh rfl rfl ini_LB ml_LB_125 hd_LB_refresh ⟨Nat.le_of_ble_eq_true rfl, Nat.le_of_ble_eq_true rfl⟩) im_LB_refresh sp_LB_refresh rfl hl.1 rfl (Nat.le_of_ble_eq_true rfl) d_LB_leave_1 ⟨Nat.zero_le _, Nat.zero_le _⟩ (fun H locs h => ?_)
  refine lv_bipush (v := (-5)) hx hb d_LB_leave_4 (by decide) ?_
  refine lv_istore_n (lv' := [(1, .int (-5)), (0, .ref (ad 0))]) hx hb d_LB_leave_6 rfl hl (by decide) rfl (fun ls hl => ?_)
  refine lv_iconst (v := 0) hx hb d_LB_leave_7 (by decide) ?_
  refine lv_istore_n (lv' := [(2, .int 0), (1, .int (-5)), (0, .ref (ad 0))]) hx hb d_LB_leave_8 rfl hl (by decide) rfl (fun ls hl => ?_)
  refine lv_iconst (v := 0) hx hb d_LB_leave_9 (by decide) ?_
  refine lv_istore_n (lv' := [(3, .int 0), (2, .int 0), (1, .int (-5)), (0, .ref (ad 0))]) hx hb d_LB_leave_10 rfl hl (by decide) rfl (fun ls hl => ?_)
  obtain ⟨⟨y18, F19, G20, P21, N22⟩, he, hf⟩ := op_bind hf
  try dsimp only at hf
  refine wl_LB_leave_11 C hA hr hlk n  n (-5) 0 0 F3 G4 P5 N6 _ _ _ _ _ he (fun ls hl H locs h => ?_) ls (lv_sub hl [3, 2, 1, 0] rfl) H locs h
  refine lv_iload_n hx hb d_LB_leave_80 rfl (lv_at hl 0 rfl) ?_
  exact rt_ci C h hr hlk hf rfl d_LB_leave_81
theorem hd_LB_rule : y_LB_rule.cls ≠ "java/lang/invoke/MethodHandle" ∧ y_LB_rule.cls ≠ "java/lang/invoke/VarHandle" ∧ (parseMethodDescriptor y_LB_rule.desc).map (fun d => d.parameters.length) = some 2 := by decide +kernel
theorem d_LB_rule_0 : decode b_LB_rule 0 = .ok (.iload_n 1, 1) := by decide +kernel
theorem d_LB_rule_1 : decode b_LB_rule 1 = .ok (.ifCond .lt 17, 3) := by decide +kernel
theorem d_LB_rule_4 : decode b_LB_rule 4 = .ok (.iload_n 1, 1) := by decide +kernel
theorem d_LB_rule_5 : decode b_LB_rule 5 = .ok (.iconst 3, 1) := by decide +kernel
theorem d_LB_rule_6 : decode b_LB_rule 6 = .ok (.if_icmp .gt 12, 3) := by decide +kernel
theorem d_LB_rule_9 : decode b_LB_rule 9 = .ok (.iload_n 2, 1) := by decide +kernel
theorem d_LB_rule_10 : decode b_LB_rule 10 = .ok (.ifCond .lt 8, 3) := by decide +kernel
theorem d_LB_rule_13 : decode b_LB_rule 13 = .ok (.iload_n 2, 1) := by decide +kernel
theorem d_LB_rule_14 : decode b_LB_rule 14 = .ok (.iconst 2, 1) := by decide +kernel
theorem d_LB_rule_15 : decode b_LB_rule 15 = .ok (.if_icmp .le 5, 3) := by decide +kernel
theorem d_LB_rule_18 : decode b_LB_rule 18 = .ok (.iconst (-1), 1) := by decide +kernel
theorem d_LB_rule_19 : decode b_LB_rule 19 = .ok (.ireturn, 1) := by decide +kernel
theorem d_LB_rule_20 : decode b_LB_rule 20 = .ok (.aload_n 0, 1) := by decide +kernel
theorem d_LB_rule_21 : decode b_LB_rule 21 = .ok (.invokevirtual 125, 3) := by decide +kernel
theorem d_LB_rule_24 : decode b_LB_rule 24 = .ok (.aload_n 0, 1) := by decide +kernel
theorem d_LB_rule_25 : decode b_LB_rule 25 = .ok (.getfield 12, 3) := by decide +kernel
theorem d_LB_rule_28 : decode b_LB_rule 28 = .ok (.invokevirtual 146, 3) := by decide +kernel
theorem d_LB_rule_31 : decode b_LB_rule 31 = .ok (.istore_n 3, 1) := by decide +kernel
theorem d_LB_rule_32 : decode b_LB_rule 32 = .ok (.iload_n 1, 1) := by decide +kernel
theorem d_LB_rule_33 : decode b_LB_rule 33 = .ok (.iconst 3, 1) := by decide +kernel
theorem d_LB_rule_34 : decode b_LB_rule 34 = .ok (.if_icmp .ne 14, 3) := by decide +kernel
theorem d_LB_rule_37 : decode b_LB_rule 37 = .ok (.aload_n 0, 1) := by decide +kernel
theorem d_LB_rule_38 : decode b_LB_rule 38 = .ok (.getfield 28, 3) := by decide +kernel
theorem d_LB_rule_41 : decode b_LB_rule 41 = .ok (.iload_n 3, 1) := by decide +kernel
theorem d_LB_rule_42 : decode b_LB_rule 42 = .ok (.invokevirtual 175, 3) := by decide +kernel
theorem d_LB_rule_45 : decode b_LB_rule 45 = .ok (.goto 4, 3) := by decide +kernel
theorem d_LB_rule_48 : decode b_LB_rule 48 = .ok (.iload_n 1, 1) := by decide +kernel
theorem d_LB_rule_49 : decode b_LB_rule 49 = .ok (.istore 4, 2) := by decide +kernel
theorem d_LB_rule_51 : decode b_LB_rule 51 = .ok (.iload_n 2, 1) := by decide +kernel
theorem d_LB_rule_52 : decode b_LB_rule 52 = .ok (.iconst 1, 1) := by decide +kernel
theorem d_LB_rule_53 : decode b_LB_rule 53 = .ok (.if_icmp .ne 15, 3) := by decide +kernel
theorem d_LB_rule_56 : decode b_LB_rule 56 = .ok (.aload_n 0, 1) := by decide +kernel
theorem d_LB_rule_57 : decode b_LB_rule 57 = .ok (.getfield 28, 3) := by decide +kernel
theorem d_LB_rule_60 : decode b_LB_rule 60 = .ok (.iload 4, 2) := by decide +kernel
theorem d_LB_rule_62 : decode b_LB_rule 62 = .ok (.iload_n 3, 1) := by decide +kernel
theorem d_LB_rule_63 : decode b_LB_rule 63 = .ok (.iconst 1, 1) := by decide +kernel
theorem d_LB_rule_64 : decode b_LB_rule 64 = .ok (.invokevirtual 178, 3) := by decide +kernel
theorem d_LB_rule_67 : decode b_LB_rule 67 = .ok (.ireturn, 1) := by decide +kernel
theorem d_LB_rule_68 : decode b_LB_rule 68 = .ok (.aload_n 0, 1) := by decide +kernel
theorem d_LB_rule_69 : decode b_LB_rule 69 = .ok (.getfield 28, 3) := by decide +kernel
theorem d_LB_rule_72 : decode b_LB_rule 72 = .ok (.iload 4, 2) := by decide +kernel
theorem d_LB_rule_74 : decode b_LB_rule 74 = .ok (.iload_n 3, 1) := by decide +kernel
theorem d_LB_rule_75 : decode b_LB_rule 75 = .ok (.iconst 0, 1) := by decide +kernel
theorem d_LB_rule_76 : decode b_LB_rule 76 = .ok (.invokevirtual 178, 3) := by decide +kernel
theorem d_LB_rule_79 : decode b_LB_rule 79 = .ok (.istore 5, 2) := by decide +kernel
theorem d_LB_rule_81 : decode b_LB_rule 81 = .ok (.iload_n 2, 1) := by decide +kernel
theorem d_LB_rule_82 : decode b_LB_rule 82 = .ok (.ifCond .eq 10, 3) := by decide +kernel
theorem d_LB_rule_85 : decode b_LB_rule 85 = .ok (.iload 5, 2) := by decide +kernel
theorem d_LB_rule_87 : decode b_LB_rule 87 = .ok (.bipush (-5), 2) := by decide +kernel
theorem d_LB_rule_89 : decode b_LB_rule 89 = .ok (.if_icmp .ne 6, 3) := by decide +kernel
theorem d_LB_rule_92 : decode b_LB_rule 92 = .ok (.iload 5, 2) := by decide +kernel
theorem d_LB_rule_94 : decode b_LB_rule 94 = .ok (.ireturn, 1) := by decide +kernel
theorem d_LB_rule_95 : decode b_LB_rule 95 = .ok (.aload_n 0, 1) := by decide +kernel
theorem d_LB_rule_96 : decode b_LB_rule 96 = .ok (.aload_n 0, 1) := by decide +kernel
theorem d_LB_rule_97 : decode b_LB_rule 97 = .ok (.getfield 12, 3) := by decide +kernel
theorem d_LB_rule_100 : decode b_LB_rule 100 = .ok (.invokevirtual 168, 3) := by decide +kernel
theorem d_LB_rule_103 : decode b_LB_rule 103 = .ok (.iconst 0, 1) := by decide +kernel
theorem d_LB_rule_104 : decode b_LB_rule 104 = .ok (.invokevirtual 139, 3) := by decide +kernel
theorem d_LB_rule_107 : decode b_LB_rule 107 = .ok (.istore 6, 2) := by decide +kernel
theorem d_LB_rule_109 : decode b_LB_rule 109 = .ok (.iload 6, 2) := by decide +kernel
theorem d_LB_rule_111 : decode b_LB_rule 111 = .ok (.bipush (-5), 2) := by decide +kernel
theorem d_LB_rule_113 : decode b_LB_rule 113 = .ok (.if_icmp .ne 8, 3) := by decide +kernel
theorem d_LB_rule_116 : decode b_LB_rule 116 = .ok (.bipush (-5), 2) := by decide +kernel
theorem d_LB_rule_118 : decode b_LB_rule 118 = .ok (.goto 8, 3) := by decide +kernel
theorem d_LB_rule_121 : decode b_LB_rule 121 = .ok (.iload 5, 2) := by decide +kernel
theorem d_LB_rule_123 : decode b_LB_rule 123 = .ok (.iload 6, 2) := by decide +kernel
theorem d_LB_rule_125 : decode b_LB_rule 125 = .ok (.isub, 1) := by decide +kernel
theorem d_LB_rule_126 : decode b_LB_rule 126 = .ok (.ireturn, 1) := by decide +kernel
def p_LB_rule (n : Nat) (E : PE) (v1 : Int32) (v2 : Int32) (F : Nat → Nat → Int32) (G : Nat → Nat → Int32) (P : Nat → Nat → Option Nat) (N : Nat → Nat) : Option (Int32 × CU) := (if v1 < 0 then some ((-1), F, G, P, N) else (if 3 < v1 then some ((-1), F, G, P, N) else (if v2 < 0 then some ((-1), F, G, P, N) else (if v2 ≤ 2 then (p_LB_refresh n E F G P N).bind fun (F3, G4, P5, N6) => (p_St_place n E F3 G4 P5 N6 ).bind fun x8 => (if v1 = 3 then (p_Go_bestRule n E F3 G4 P5 N6 x8).bind fun x12 => some x12 else some v1 : Option (Int32)).bind fun x10 => (if v2 = 1 then (p_Go_byRule n E F3 G4 P5 N6 x10 x8 1).bind fun x26 => some (x26, F3, G4, P5, N6) else (p_Go_byRule n E F3 G4 P5 N6 x10 x8 0).bind fun x14 => (if v2 = 0 then some (x14, F3, G4, P5, N6) else (if x14 = (-5) then some (x14, F3, G4, P5, N6) else (p_St_everybody n E F3 G4 P5 N6 ).bind fun x16 => (p_LB_leastFor n E x16 0 F3 G4 P5 N6).bind fun (x18, F19, G20, P21, N22) => (if x18 = (-5) then some (-5) else some (x14 - x18) : Option (Int32)).bind fun x24 => some (x24, F19, G20, P21, N22)))) else some ((-1), F, G, P, N)))))
set_option maxHeartbeats 4000000 in
theorem c_LB_rule (l : Launch) (n : Nat) (E : PE) (v1 : Int32) (v2 : Int32) (F : Nat → Nat → Int32) (G : Nat → Nat → Int32) (P : Nat → Nat → Option Nat) (N : Nat → Nat)  : CMi l y_LB_rule b_LB_rule 7 .int (rL 16) E (fun ad => [.ref (ad 0), .int v1, .int v2]) F G P N (p_LB_rule n E v1 v2 F G P N) := by
  refine en_ci (by decide) (fun _ => Nat.le_of_ble_eq_true rfl) ?_
  intro z hf p e s m args below meth c dC dI ad cI cZ cW cJ A adK adV ls C hA h hr hlk hl
  have hl : lv_has ls 7 [(0, .ref (ad 0)), (1, .int v1), (2, .int v2)] := hl
  unfold p_LB_rule at hf
  obtain ⟨hx, hb, hml, hown, hT, hK, hTS, hTR, hpS, hi⟩ := id C
  refine lv_iload_n hx hb d_LB_rule_0 rfl (lv_at hl 1 rfl) ?_
  refine lv_if_lt (tgt := 18) hx hb d_LB_rule_1 (by decide) (fun hc => ?_) (fun hc => ?_)
  · have hf := op_t hc hf
    refine lv_iconst (v := (-1)) hx hb d_LB_rule_18 (by decide) ?_
    exact rt_ci C h hr hlk hf rfl d_LB_rule_19
  · have hf := op_f hc hf
    refine lv_iload_n hx hb d_LB_rule_4 rfl (lv_at hl 1 rfl) ?_
    refine lv_iconst (v := 3) hx hb d_LB_rule_5 (by decide) ?_
    refine lv_icmp_gt (tgt := 18) hx hb d_LB_rule_6 (by decide) (fun hc => ?_) (fun hc => ?_)
    · have hf := op_t hc hf
      refine lv_iconst (v := (-1)) hx hb d_LB_rule_18 (by decide) ?_
      exact rt_ci C h hr hlk hf rfl d_LB_rule_19
    · have hf := op_f hc hf
      refine lv_iload_n hx hb d_LB_rule_9 rfl (lv_at hl 2 rfl) ?_
      refine lv_if_lt (tgt := 18) hx hb d_LB_rule_10 (by decide) (fun hc => ?_) (fun hc => ?_)
      · have hf := op_t hc hf
        refine lv_iconst (v := (-1)) hx hb d_LB_rule_18 (by decide) ?_
        exact rt_ci C h hr hlk hf rfl d_LB_rule_19
      · have hf := op_f hc hf
        refine lv_iload_n hx hb d_LB_rule_13 rfl (lv_at hl 2 rfl) ?_
        refine lv_iconst (v := 2) hx hb d_LB_rule_14 (by decide) ?_
        refine lv_icmp_le (tgt := 20) hx hb d_LB_rule_15 (by decide) (fun hc => ?_) (fun hc => ?_)
        · have hf := op_t hc hf
          refine lv_aload_n hx hb d_LB_rule_20 rfl (lv_at hl 0 rfl) ?_
          obtain ⟨⟨F3, G4, P5, N6⟩, hc1, hf⟩ := op_bind hf
          try dsimp only at hf
          refine kx_v (C0 := R_LB) (b0 := ad 0) (rest := []) C h hA rfl (va_recv hK h.1 (ci := 11) (q0 := 0) rfl rfl) (c_LB_refresh l n E  F G P N) hc1 (cbW 0 hT cd_LB_refresh rfl rfl ini_LB ml_LB_125 hd_LB_refresh ⟨Nat.le_of_ble_eq_true rfl, Nat.le_of_ble_eq_true rfl⟩) im_LB_refresh sp_LB_refresh rfl hl.1 rfl (Nat.le_of_ble_eq_true rfl) d_LB_rule_21 ⟨Nat.zero_le _, Nat.zero_le _⟩ (fun H locs h => ?_)
          refine lv_aload_n hx hb d_LB_rule_24 rfl (lv_at hl 0 rfl) ?_
          refine cg_0_0 hx hb hT hown hK h.1 fl_LB_12 d_LB_rule_25 ?_
          obtain ⟨x8, hc7, hf⟩ := op_bind hf
          refine kr_i (C := R_St) (b0 := ad 1) (rest := []) hx hb hml hown hT cB_bl (cB_to hK h.1 (cpS hpS h) hi) (va_recv hK h.1 (ci := 7) (q0 := 1) rfl rfl) (c_St_place l n E F3 G4 P5 N6 dC dI ad cI cZ cW cJ  _ hc7) (cbW 0 hT cd_St_place rfl rfl ini_St ml_LB_146 hd_St_place ⟨Nat.le_of_ble_eq_true rfl, Nat.le_of_ble_eq_true rfl⟩) im_St_place se_St_St_place__St_place rfl hl.1 rfl (Nat.le_of_ble_eq_true rfl) d_LB_rule_28 ⟨Nat.zero_le _, Nat.zero_le _⟩ ?_
          refine lv_istore_n (lv' := [(3, .int x8), (0, .ref (ad 0)), (1, .int v1), (2, .int v2)]) hx hb d_LB_rule_31 rfl hl (by decide) rfl (fun ls hl => ?_)
          refine lv_iload_n hx hb d_LB_rule_32 rfl (lv_at hl 2 rfl) ?_
          refine lv_iconst (v := 3) hx hb d_LB_rule_33 (by decide) ?_
          obtain ⟨x10, he, hf⟩ := op_bind hf
          have K9 : ∀ (ls : Array Slot), lv_has ls 7 [(0, .ref (ad 0)), (2, .int v2), (3, .int x8)] → ∀ (H : Heap) (locs : List Loc), cH A s.heap dC dI ad cI cZ cW cJ F3 G4 P5 N6 H locs → W p l e (rL 16) s m args below meth c H locs 0 0 (cQi dC dI ad cI cZ cW cJ A below args s z) (F0 m 49 ls [.int x10]) := by
            intro ls hl H locs h
            refine lv_istore (lv' := [(4, .int x10), (0, .ref (ad 0)), (2, .int v2), (3, .int x8)]) hx hb d_LB_rule_49 hl (by decide) rfl (fun ls hl => ?_)
            refine lv_iload_n hx hb d_LB_rule_51 rfl (lv_at hl 2 rfl) ?_
            refine lv_iconst (v := 1) hx hb d_LB_rule_52 (by decide) ?_
            refine lv_icmp_ne (tgt := 68) hx hb d_LB_rule_53 (by decide) (fun hc => ?_) (fun hc => ?_)
            · have hf := op_f hc hf
              refine lv_aload_n hx hb d_LB_rule_68 rfl (lv_at hl 1 rfl) ?_
              refine cg_0_4 hx hb hT hown hK h.1 fl_LB_28 d_LB_rule_69 ?_
              refine lv_iload hx hb d_LB_rule_72 (lv_at hl 0 rfl) ?_
              refine lv_iload_n hx hb d_LB_rule_74 rfl (lv_at hl 3 rfl) ?_
              refine lv_iconst (v := 0) hx hb d_LB_rule_75 (by decide) ?_
              obtain ⟨x14, hc13, hf⟩ := op_bind hf
              refine kr_i (C := R_Go) (b0 := ad 3) (rest := []) hx hb hml hown hT cB_bl (cB_to hK h.1 (cpS hpS h) hi) (va_recv hK h.1 (ci := 1) (q0 := 3) rfl rfl) (c_Go_byRule l n E F3 G4 P5 N6 dC dI ad cI cZ cW cJ x10 x8 0 _ hc13) (cbW 3 hT cd_Go_byRule rfl rfl ini_Go ml_LB_178 hd_Go_byRule ⟨Nat.le_of_ble_eq_true rfl, Nat.le_of_ble_eq_true rfl⟩) im_Go_byRule se_Go_Go_byRule__Go_byRule rfl hl.1 rfl (Nat.le_of_ble_eq_true rfl) d_LB_rule_76 ⟨Nat.zero_le _, Nat.zero_le _⟩ ?_
              refine lv_istore (lv' := [(5, .int x14), (4, .int x10), (0, .ref (ad 0)), (2, .int v2), (3, .int x8)]) hx hb d_LB_rule_79 hl (by decide) rfl (fun ls hl => ?_)
              refine lv_iload_n hx hb d_LB_rule_81 rfl (lv_at hl 3 rfl) ?_
              refine lv_if_eq (tgt := 92) hx hb d_LB_rule_82 (by decide) (fun hc => ?_) (fun hc => ?_)
              · have hf := op_t hc hf
                refine lv_iload hx hb d_LB_rule_92 (lv_at hl 0 rfl) ?_
                exact rt_ci C h hr hlk hf rfl d_LB_rule_94
              · have hf := op_f hc hf
                refine lv_iload hx hb d_LB_rule_85 (lv_at hl 0 rfl) ?_
                refine lv_bipush (v := (-5)) hx hb d_LB_rule_87 (by decide) ?_
                refine lv_icmp_ne (tgt := 95) hx hb d_LB_rule_89 (by decide) (fun hc => ?_) (fun hc => ?_)
                · have hf := op_f hc hf
                  refine lv_aload_n hx hb d_LB_rule_95 rfl (lv_at hl 2 rfl) ?_
                  refine lv_aload_n hx hb d_LB_rule_96 rfl (lv_at hl 2 rfl) ?_
                  refine cg_0_0 hx hb hT hown hK h.1 fl_LB_12 d_LB_rule_97 ?_
                  obtain ⟨x16, hc15, hf⟩ := op_bind hf
                  refine kr_i (C := R_St) (b0 := ad 1) (rest := [.ref (ad 0)]) hx hb hml hown hT cB_bl (cB_to hK h.1 (cpS hpS h) hi) (va_recv hK h.1 (ci := 7) (q0 := 1) rfl rfl) (c_St_everybody l n E F3 G4 P5 N6 dC dI ad cI cZ cW cJ  _ hc15) (cbW 0 hT cd_St_everybody rfl rfl ini_St ml_LB_168 hd_St_everybody ⟨Nat.le_of_ble_eq_true rfl, Nat.le_of_ble_eq_true rfl⟩) im_St_everybody se_St_St_everybody__St_everybody rfl hl.1 rfl (Nat.le_of_ble_eq_true rfl) d_LB_rule_100 ⟨Nat.zero_le _, Nat.zero_le _⟩ ?_
                  refine lv_iconst (v := 0) hx hb d_LB_rule_103 (by decide) ?_
                  obtain ⟨⟨x18, F19, G20, P21, N22⟩, hc17, hf⟩ := op_bind hf
                  try dsimp only at hf
                  refine kx_i (C0 := R_LB) (b0 := ad 0) (rest := []) C h hA rfl (va_recv hK h.1 (ci := 11) (q0 := 0) rfl rfl) (c_LB_leastFor l n E x16 0 F3 G4 P5 N6) hc17 (cbW 2 hT cd_LB_leastFor rfl rfl ini_LB ml_LB_139 hd_LB_leastFor ⟨Nat.le_of_ble_eq_true rfl, Nat.le_of_ble_eq_true rfl⟩) im_LB_leastFor sp_LB_leastFor rfl hl.1 rfl (Nat.le_of_ble_eq_true rfl) d_LB_rule_104 ⟨Nat.zero_le _, Nat.zero_le _⟩ (fun H locs h => ?_)
                  refine lv_istore (lv' := [(6, .int x18), (5, .int x14), (4, .int x10), (0, .ref (ad 0)), (2, .int v2), (3, .int x8)]) hx hb d_LB_rule_107 hl (by decide) rfl (fun ls hl => ?_)
                  refine lv_iload hx hb d_LB_rule_109 (lv_at hl 0 rfl) ?_
                  refine lv_bipush (v := (-5)) hx hb d_LB_rule_111 (by decide) ?_
                  obtain ⟨x24, he, hf⟩ := op_bind hf
                  have K23 : ∀ (ls : Array Slot), lv_has ls 7 [] → ∀ (H : Heap) (locs : List Loc), cH A s.heap dC dI ad cI cZ cW cJ F19 G20 P21 N22 H locs → W p l e (rL 16) s m args below meth c H locs 0 0 (cQi dC dI ad cI cZ cW cJ A below args s z) (F0 m 126 ls [.int x24]) := by
                    intro ls hl H locs h
                    exact rt_ci C h hr hlk hf rfl d_LB_rule_126
                  have hf := he
                  refine lv_icmp_ne (tgt := 121) hx hb d_LB_rule_113 (by decide) (fun hc => ?_) (fun hc => ?_)
                  · have hf := op_f hc hf
                    refine lv_iload hx hb d_LB_rule_121 (lv_at hl 1 rfl) ?_
                    refine lv_iload hx hb d_LB_rule_123 (lv_at hl 0 rfl) ?_
                    refine lv_isub hx hb d_LB_rule_125 ?_
                    obtain rfl := op_i1 hf
                    exact K23 ls (lv_sub hl [] rfl) H locs h
                  · have hf := op_t hc hf
                    refine lv_bipush (v := (-5)) hx hb d_LB_rule_116 (by decide) ?_
                    refine lv_goto (tgt := 126) hx hb d_LB_rule_118 (by decide) ?_
                    obtain rfl := op_i1 hf
                    exact K23 ls (lv_sub hl [] rfl) H locs h
                · have hf := op_t hc hf
                  refine lv_iload hx hb d_LB_rule_92 (lv_at hl 0 rfl) ?_
                  exact rt_ci C h hr hlk hf rfl d_LB_rule_94
            · have hf := op_t hc hf
              refine lv_aload_n hx hb d_LB_rule_56 rfl (lv_at hl 1 rfl) ?_
              refine cg_0_4 hx hb hT hown hK h.1 fl_LB_28 d_LB_rule_57 ?_
              refine lv_iload hx hb d_LB_rule_60 (lv_at hl 0 rfl) ?_
              refine lv_iload_n hx hb d_LB_rule_62 rfl (lv_at hl 3 rfl) ?_
              refine lv_iconst (v := 1) hx hb d_LB_rule_63 (by decide) ?_
              obtain ⟨x26, hc25, hf⟩ := op_bind hf
              refine kr_i (C := R_Go) (b0 := ad 3) (rest := []) hx hb hml hown hT cB_bl (cB_to hK h.1 (cpS hpS h) hi) (va_recv hK h.1 (ci := 1) (q0 := 3) rfl rfl) (c_Go_byRule l n E F3 G4 P5 N6 dC dI ad cI cZ cW cJ x10 x8 1 _ hc25) (cbW 3 hT cd_Go_byRule rfl rfl ini_Go ml_LB_178 hd_Go_byRule ⟨Nat.le_of_ble_eq_true rfl, Nat.le_of_ble_eq_true rfl⟩) im_Go_byRule se_Go_Go_byRule__Go_byRule rfl hl.1 rfl (Nat.le_of_ble_eq_true rfl) d_LB_rule_64 ⟨Nat.zero_le _, Nat.zero_le _⟩ ?_
              exact rt_ci C h hr hlk hf rfl d_LB_rule_67
          have hf := he
          refine lv_icmp_ne (tgt := 48) hx hb d_LB_rule_34 (by decide) (fun hc => ?_) (fun hc => ?_)
          · have hf := op_f hc hf
            refine lv_iload_n hx hb d_LB_rule_48 rfl (lv_at hl 2 rfl) ?_
            obtain rfl := op_i1 hf
            exact K9 ls (lv_sub hl [1, 3, 0] rfl) H locs h
          · have hf := op_t hc hf
            refine lv_aload_n hx hb d_LB_rule_37 rfl (lv_at hl 1 rfl) ?_
            refine cg_0_4 hx hb hT hown hK h.1 fl_LB_28 d_LB_rule_38 ?_
            refine lv_iload_n hx hb d_LB_rule_41 rfl (lv_at hl 0 rfl) ?_
            obtain ⟨x12, hc11, hf⟩ := op_bind hf
            refine kr_i (C := R_Go) (b0 := ad 3) (rest := []) hx hb hml hown hT cB_bl (cB_to hK h.1 (cpS hpS h) hi) (va_recv hK h.1 (ci := 1) (q0 := 3) rfl rfl) (c_Go_bestRule l n E F3 G4 P5 N6 dC dI ad cI cZ cW cJ x8 _ hc11) (cbW 1 hT cd_Go_bestRule rfl rfl ini_Go ml_LB_175 hd_Go_bestRule ⟨Nat.le_of_ble_eq_true rfl, Nat.le_of_ble_eq_true rfl⟩) im_Go_bestRule se_Go_Go_bestRule__Go_bestRule rfl hl.1 rfl (Nat.le_of_ble_eq_true rfl) d_LB_rule_42 ⟨Nat.zero_le _, Nat.zero_le _⟩ ?_
            refine lv_goto (tgt := 49) hx hb d_LB_rule_45 (by decide) ?_
            obtain rfl := op_i1 hf
            exact K9 ls (lv_sub hl [1, 3, 0] rfl) H locs h
        · have hf := op_f hc hf
          refine lv_iconst (v := (-1)) hx hb d_LB_rule_18 (by decide) ?_
          exact rt_ci C h hr hlk hf rfl d_LB_rule_19
theorem hd_LB_seen : y_LB_seen.cls ≠ "java/lang/invoke/MethodHandle" ∧ y_LB_seen.cls ≠ "java/lang/invoke/VarHandle" ∧ (parseMethodDescriptor y_LB_seen.desc).map (fun d => d.parameters.length) = some 2 := by decide +kernel
theorem d_LB_seen_0 : decode b_LB_seen 0 = .ok (.iload_n 1, 1) := by decide +kernel
theorem d_LB_seen_1 : decode b_LB_seen 1 = .ok (.iconst (-1), 1) := by decide +kernel
theorem d_LB_seen_2 : decode b_LB_seen 2 = .ok (.if_icmp .ne 13, 3) := by decide +kernel
theorem d_LB_seen_5 : decode b_LB_seen 5 = .ok (.aload_n 0, 1) := by decide +kernel
theorem d_LB_seen_6 : decode b_LB_seen 6 = .ok (.getfield 12, 3) := by decide +kernel
theorem d_LB_seen_9 : decode b_LB_seen 9 = .ok (.iconst 0, 1) := by decide +kernel
theorem d_LB_seen_10 : decode b_LB_seen 10 = .ok (.putfield 182, 3) := by decide +kernel
theorem d_LB_seen_13 : decode b_LB_seen 13 = .ok (.iconst 0, 1) := by decide +kernel
theorem d_LB_seen_14 : decode b_LB_seen 14 = .ok (.ireturn, 1) := by decide +kernel
theorem d_LB_seen_15 : decode b_LB_seen 15 = .ok (.iload_n 1, 1) := by decide +kernel
theorem d_LB_seen_16 : decode b_LB_seen 16 = .ok (.ifCond .eq 25, 3) := by decide +kernel
theorem d_LB_seen_19 : decode b_LB_seen 19 = .ok (.aload_n 0, 1) := by decide +kernel
theorem d_LB_seen_20 : decode b_LB_seen 20 = .ok (.getfield 12, 3) := by decide +kernel
theorem d_LB_seen_23 : decode b_LB_seen 23 = .ok (.iload_n 1, 1) := by decide +kernel
theorem d_LB_seen_24 : decode b_LB_seen 24 = .ok (.invokevirtual 121, 3) := by decide +kernel
theorem d_LB_seen_27 : decode b_LB_seen 27 = .ok (.ifCond .eq 14, 3) := by decide +kernel
theorem d_LB_seen_30 : decode b_LB_seen 30 = .ok (.iload_n 2, 1) := by decide +kernel
theorem d_LB_seen_31 : decode b_LB_seen 31 = .ok (.iconst 1, 1) := by decide +kernel
theorem d_LB_seen_32 : decode b_LB_seen 32 = .ok (.if_icmp .lt 9, 3) := by decide +kernel
theorem d_LB_seen_35 : decode b_LB_seen 35 = .ok (.iload_n 2, 1) := by decide +kernel
theorem d_LB_seen_36 : decode b_LB_seen 36 = .ok (.bipush 99, 2) := by decide +kernel
theorem d_LB_seen_38 : decode b_LB_seen 38 = .ok (.if_icmp .le 6, 3) := by decide +kernel
theorem d_LB_seen_41 : decode b_LB_seen 41 = .ok (.bipush (-2), 2) := by decide +kernel
theorem d_LB_seen_43 : decode b_LB_seen 43 = .ok (.ireturn, 1) := by decide +kernel
theorem d_LB_seen_44 : decode b_LB_seen 44 = .ok (.aload_n 0, 1) := by decide +kernel
theorem d_LB_seen_45 : decode b_LB_seen 45 = .ok (.getfield 12, 3) := by decide +kernel
theorem d_LB_seen_48 : decode b_LB_seen 48 = .ok (.getfield 182, 3) := by decide +kernel
theorem d_LB_seen_51 : decode b_LB_seen 51 = .ok (.bipush 12, 2) := by decide +kernel
theorem d_LB_seen_53 : decode b_LB_seen 53 = .ok (.if_icmp .lt 6, 3) := by decide +kernel
theorem d_LB_seen_56 : decode b_LB_seen 56 = .ok (.bipush (-4), 2) := by decide +kernel
theorem d_LB_seen_58 : decode b_LB_seen 58 = .ok (.ireturn, 1) := by decide +kernel
theorem d_LB_seen_59 : decode b_LB_seen 59 = .ok (.aload_n 0, 1) := by decide +kernel
theorem d_LB_seen_60 : decode b_LB_seen 60 = .ok (.getfield 12, 3) := by decide +kernel
theorem d_LB_seen_63 : decode b_LB_seen 63 = .ok (.getfield 185, 3) := by decide +kernel
theorem d_LB_seen_66 : decode b_LB_seen 66 = .ok (.aload_n 0, 1) := by decide +kernel
theorem d_LB_seen_67 : decode b_LB_seen 67 = .ok (.getfield 12, 3) := by decide +kernel
theorem d_LB_seen_70 : decode b_LB_seen 70 = .ok (.getfield 182, 3) := by decide +kernel
theorem d_LB_seen_73 : decode b_LB_seen 73 = .ok (.iload_n 1, 1) := by decide +kernel
theorem d_LB_seen_74 : decode b_LB_seen 74 = .ok (.iastore, 1) := by decide +kernel
theorem d_LB_seen_75 : decode b_LB_seen 75 = .ok (.aload_n 0, 1) := by decide +kernel
theorem d_LB_seen_76 : decode b_LB_seen 76 = .ok (.getfield 12, 3) := by decide +kernel
theorem d_LB_seen_79 : decode b_LB_seen 79 = .ok (.getfield 188, 3) := by decide +kernel
theorem d_LB_seen_82 : decode b_LB_seen 82 = .ok (.aload_n 0, 1) := by decide +kernel
theorem d_LB_seen_83 : decode b_LB_seen 83 = .ok (.getfield 12, 3) := by decide +kernel
theorem d_LB_seen_86 : decode b_LB_seen 86 = .ok (.getfield 182, 3) := by decide +kernel
theorem d_LB_seen_89 : decode b_LB_seen 89 = .ok (.iload_n 2, 1) := by decide +kernel
theorem d_LB_seen_90 : decode b_LB_seen 90 = .ok (.iastore, 1) := by decide +kernel
theorem d_LB_seen_91 : decode b_LB_seen 91 = .ok (.aload_n 0, 1) := by decide +kernel
theorem d_LB_seen_92 : decode b_LB_seen 92 = .ok (.getfield 12, 3) := by decide +kernel
theorem d_LB_seen_95 : decode b_LB_seen 95 = .ok (.dup, 1) := by decide +kernel
theorem d_LB_seen_96 : decode b_LB_seen 96 = .ok (.getfield 182, 3) := by decide +kernel
theorem d_LB_seen_99 : decode b_LB_seen 99 = .ok (.iconst 1, 1) := by decide +kernel
theorem d_LB_seen_100 : decode b_LB_seen 100 = .ok (.iadd, 1) := by decide +kernel
theorem d_LB_seen_101 : decode b_LB_seen 101 = .ok (.putfield 182, 3) := by decide +kernel
theorem d_LB_seen_104 : decode b_LB_seen 104 = .ok (.aload_n 0, 1) := by decide +kernel
theorem d_LB_seen_105 : decode b_LB_seen 105 = .ok (.getfield 12, 3) := by decide +kernel
theorem d_LB_seen_108 : decode b_LB_seen 108 = .ok (.getfield 182, 3) := by decide +kernel
theorem d_LB_seen_111 : decode b_LB_seen 111 = .ok (.ireturn, 1) := by decide +kernel
def p_LB_seen (n : Nat) (E : PE) (v1 : Int32) (v2 : Int32) (F : Nat → Nat → Int32) (G : Nat → Nat → Int32) (P : Nat → Nat → Option Nat) (N : Nat → Nat) : Option (Int32 × CU) := (if v1 = (-1) then some (0, (upR F 1 12 0), G, P, N) else (if v1 = 0 then some ((-2), F, G, P, N) else (p_St_isSet n E F G P N v1).bind fun x2 => (if x2 = 0 then some ((-2), F, G, P, N) else (if v2 < 1 then some ((-2), F, G, P, N) else (if v2 ≤ 99 then (if (F 1 12) < 12 then if ix (F 1 12) 12 then if ix (F 1 12) 12 then some (((upR F 1 12 ((F 1 12) + 1)) 1 12), (upR F 1 12 ((F 1 12) + 1)), (upR (upR G 11 (F 1 12).toNatClampNeg v1) 13 (F 1 12).toNatClampNeg v2), P, N) else none else none else some ((-4), F, G, P, N)) else some ((-2), F, G, P, N))))))
set_option maxHeartbeats 4000000 in
theorem c_LB_seen (l : Launch) (n : Nat) (E : PE) (v1 : Int32) (v2 : Int32) (F : Nat → Nat → Int32) (G : Nat → Nat → Int32) (P : Nat → Nat → Option Nat) (N : Nat → Nat)  : CMi l y_LB_seen b_LB_seen 3 .int (rL 7) E (fun ad => [.ref (ad 0), .int v1, .int v2]) F G P N (p_LB_seen n E v1 v2 F G P N) := by
  refine en_ci (by decide) (fun _ => Nat.le_of_ble_eq_true rfl) ?_
  intro z hf p e s m args below meth c dC dI ad cI cZ cW cJ A adK adV ls C hA h hr hlk hl
  have hl : lv_has ls 3 [(0, .ref (ad 0)), (1, .int v1), (2, .int v2)] := hl
  unfold p_LB_seen at hf
  obtain ⟨hx, hb, hml, hown, hT, hK, hTS, hTR, hpS, hi⟩ := id C
  refine lv_iload_n hx hb d_LB_seen_0 rfl (lv_at hl 1 rfl) ?_
  refine lv_iconst (v := (-1)) hx hb d_LB_seen_1 (by decide) ?_
  refine lv_icmp_ne (tgt := 15) hx hb d_LB_seen_2 (by decide) (fun hc => ?_) (fun hc => ?_)
  · have hf := op_f hc hf
    refine lv_iload_n hx hb d_LB_seen_15 rfl (lv_at hl 1 rfl) ?_
    refine lv_if_eq (tgt := 41) hx hb d_LB_seen_16 (by decide) (fun hc => ?_) (fun hc => ?_)
    · have hf := op_t hc hf
      refine lv_bipush (v := (-2)) hx hb d_LB_seen_41 (by decide) ?_
      exact rt_ci C h hr hlk hf rfl d_LB_seen_43
    · have hf := op_f hc hf
      refine lv_aload_n hx hb d_LB_seen_19 rfl (lv_at hl 0 rfl) ?_
      refine cg_0_0 hx hb hT hown hK h.1 fl_LB_12 d_LB_seen_20 ?_
      refine lv_iload_n hx hb d_LB_seen_23 rfl (lv_at hl 1 rfl) ?_
      obtain ⟨x2, hc1, hf⟩ := op_bind hf
      refine kr_i (C := R_St) (b0 := ad 1) (rest := []) hx hb hml hown hT cB_bl (cB_to hK h.1 (cpS hpS h) hi) (va_recv hK h.1 (ci := 7) (q0 := 1) rfl rfl) (c_St_isSet l n E F G P N dC dI ad cI cZ cW cJ v1 _ hc1) (cbW 1 hT cd_St_isSet rfl rfl ini_St ml_LB_121 hd_St_isSet ⟨Nat.le_of_ble_eq_true rfl, Nat.le_of_ble_eq_true rfl⟩) im_St_isSet se_St_St_isSet__St_isSet rfl hl.1 rfl (Nat.le_of_ble_eq_true rfl) d_LB_seen_24 ⟨Nat.zero_le _, Nat.zero_le _⟩ ?_
      refine lv_if_eq (tgt := 41) hx hb d_LB_seen_27 (by decide) (fun hc => ?_) (fun hc => ?_)
      · have hf := op_t hc hf
        refine lv_bipush (v := (-2)) hx hb d_LB_seen_41 (by decide) ?_
        exact rt_ci C h hr hlk hf rfl d_LB_seen_43
      · have hf := op_f hc hf
        refine lv_iload_n hx hb d_LB_seen_30 rfl (lv_at hl 2 rfl) ?_
        refine lv_iconst (v := 1) hx hb d_LB_seen_31 (by decide) ?_
        refine lv_icmp_lt (tgt := 41) hx hb d_LB_seen_32 (by decide) (fun hc => ?_) (fun hc => ?_)
        · have hf := op_t hc hf
          refine lv_bipush (v := (-2)) hx hb d_LB_seen_41 (by decide) ?_
          exact rt_ci C h hr hlk hf rfl d_LB_seen_43
        · have hf := op_f hc hf
          refine lv_iload_n hx hb d_LB_seen_35 rfl (lv_at hl 2 rfl) ?_
          refine lv_bipush (v := 99) hx hb d_LB_seen_36 (by decide) ?_
          refine lv_icmp_le (tgt := 44) hx hb d_LB_seen_38 (by decide) (fun hc => ?_) (fun hc => ?_)
          · have hf := op_t hc hf
            refine lv_aload_n hx hb d_LB_seen_44 rfl (lv_at hl 0 rfl) ?_
            refine cg_0_0 hx hb hT hown hK h.1 fl_LB_12 d_LB_seen_45 ?_
            refine cg_1_12 hx hb hT hown hK h.1 fl_LB_182 d_LB_seen_48 ?_
            refine lv_bipush (v := 12) hx hb d_LB_seen_51 (by decide) ?_
            refine lv_icmp_lt (tgt := 59) hx hb d_LB_seen_53 (by decide) (fun hc => ?_) (fun hc => ?_)
            · have hf := op_t hc hf
              refine lv_aload_n hx hb d_LB_seen_59 rfl (lv_at hl 0 rfl) ?_
              refine cg_0_0 hx hb hT hown hK h.1 fl_LB_12 d_LB_seen_60 ?_
              refine cg_1_10 hx hb hT hown hK h.1 fl_LB_185 d_LB_seen_63 ?_
              refine lv_aload_n hx hb d_LB_seen_66 rfl (lv_at hl 0 rfl) ?_
              refine cg_0_0 hx hb hT hown hK h.1 fl_LB_12 d_LB_seen_67 ?_
              refine cg_1_12 hx hb hT hown hK h.1 fl_LB_182 d_LB_seen_70 ?_
              refine lv_iload_n hx hb d_LB_seen_73 rfl (lv_at hl 1 rfl) ?_
              obtain ⟨h3, hf⟩ := op_if hf
              refine cs_11 hx hb hK h rfl h3 d_LB_seen_74 (fun H locs h => ?_)
              refine lv_aload_n hx hb d_LB_seen_75 rfl (lv_at hl 0 rfl) ?_
              refine cg_0_0 hx hb hT hown hK h.1 fl_LB_12 d_LB_seen_76 ?_
              refine cg_1_11 hx hb hT hown hK h.1 fl_LB_188 d_LB_seen_79 ?_
              refine lv_aload_n hx hb d_LB_seen_82 rfl (lv_at hl 0 rfl) ?_
              refine cg_0_0 hx hb hT hown hK h.1 fl_LB_12 d_LB_seen_83 ?_
              refine cg_1_12 hx hb hT hown hK h.1 fl_LB_182 d_LB_seen_86 ?_
              refine lv_iload_n hx hb d_LB_seen_89 rfl (lv_at hl 2 rfl) ?_
              obtain ⟨h4, hf⟩ := op_if hf
              refine cs_13 hx hb hK h rfl h4 d_LB_seen_90 (fun H locs h => ?_)
              refine lv_aload_n hx hb d_LB_seen_91 rfl (lv_at hl 0 rfl) ?_
              refine cg_0_0 hx hb hT hown hK h.1 fl_LB_12 d_LB_seen_92 ?_
              refine lv_dup hx hb d_LB_seen_95 rfl ?_
              refine cg_1_12 hx hb hT hown hK h.1 fl_LB_182 d_LB_seen_96 ?_
              refine lv_iconst (v := 1) hx hb d_LB_seen_99 (by decide) ?_
              refine lv_iadd hx hb d_LB_seen_100 ?_
              refine cp_1_12 hx hb hT hown hK h fl_LB_182 d_LB_seen_101 (fun H locs h => ?_)
              refine lv_aload_n hx hb d_LB_seen_104 rfl (lv_at hl 0 rfl) ?_
              refine cg_0_0 hx hb hT hown hK h.1 fl_LB_12 d_LB_seen_105 ?_
              refine cg_1_12 hx hb hT hown hK h.1 fl_LB_182 d_LB_seen_108 ?_
              exact rt_ci C h hr hlk hf rfl d_LB_seen_111
            · have hf := op_f hc hf
              refine lv_bipush (v := (-4)) hx hb d_LB_seen_56 (by decide) ?_
              exact rt_ci C h hr hlk hf rfl d_LB_seen_58
          · have hf := op_f hc hf
            refine lv_bipush (v := (-2)) hx hb d_LB_seen_41 (by decide) ?_
            exact rt_ci C h hr hlk hf rfl d_LB_seen_43
  · have hf := op_t hc hf
    refine lv_aload_n hx hb d_LB_seen_5 rfl (lv_at hl 0 rfl) ?_
    refine cg_0_0 hx hb hT hown hK h.1 fl_LB_12 d_LB_seen_6 ?_
    refine lv_iconst (v := 0) hx hb d_LB_seen_9 (by decide) ?_
    refine cp_1_12 hx hb hT hown hK h fl_LB_182 d_LB_seen_10 (fun H locs h => ?_)
    refine lv_iconst (v := 0) hx hb d_LB_seen_13 (by decide) ?_
    exact rt_ci C h hr hlk hf rfl d_LB_seen_14
theorem hd_LB_span : y_LB_span.cls ≠ "java/lang/invoke/MethodHandle" ∧ y_LB_span.cls ≠ "java/lang/invoke/VarHandle" ∧ (parseMethodDescriptor y_LB_span.desc).map (fun d => d.parameters.length) = some 2 := by decide +kernel
theorem d_LB_span_0 : decode b_LB_span 0 = .ok (.aload_n 0, 1) := by decide +kernel
theorem d_LB_span_1 : decode b_LB_span 1 = .ok (.getfield 12, 3) := by decide +kernel
theorem d_LB_span_4 : decode b_LB_span 4 = .ok (.iload_n 1, 1) := by decide +kernel
theorem d_LB_span_5 : decode b_LB_span 5 = .ok (.invokevirtual 81, 3) := by decide +kernel
theorem d_LB_span_8 : decode b_LB_span 8 = .ok (.ifnull 12, 3) := by decide +kernel
theorem d_LB_span_11 : decode b_LB_span 11 = .ok (.iload_n 2, 1) := by decide +kernel
theorem d_LB_span_12 : decode b_LB_span 12 = .ok (.ifCond .lt 8, 3) := by decide +kernel
theorem d_LB_span_15 : decode b_LB_span 15 = .ok (.iload_n 2, 1) := by decide +kernel
theorem d_LB_span_16 : decode b_LB_span 16 = .ok (.iconst 1, 1) := by decide +kernel
theorem d_LB_span_17 : decode b_LB_span 17 = .ok (.if_icmp .le 5, 3) := by decide +kernel
theorem d_LB_span_20 : decode b_LB_span 20 = .ok (.iconst (-1), 1) := by decide +kernel
theorem d_LB_span_21 : decode b_LB_span 21 = .ok (.ireturn, 1) := by decide +kernel
theorem d_LB_span_22 : decode b_LB_span 22 = .ok (.aload_n 0, 1) := by decide +kernel
theorem d_LB_span_23 : decode b_LB_span 23 = .ok (.getfield 12, 3) := by decide +kernel
theorem d_LB_span_26 : decode b_LB_span 26 = .ok (.iconst 0, 1) := by decide +kernel
theorem d_LB_span_27 : decode b_LB_span 27 = .ok (.invokevirtual 191, 3) := by decide +kernel
theorem d_LB_span_30 : decode b_LB_span 30 = .ok (.ifCond .ne 5, 3) := by decide +kernel
theorem d_LB_span_33 : decode b_LB_span 33 = .ok (.iconst 0, 1) := by decide +kernel
theorem d_LB_span_34 : decode b_LB_span 34 = .ok (.ireturn, 1) := by decide +kernel
theorem d_LB_span_35 : decode b_LB_span 35 = .ok (.iload_n 2, 1) := by decide +kernel
theorem d_LB_span_36 : decode b_LB_span 36 = .ok (.iconst 1, 1) := by decide +kernel
theorem d_LB_span_37 : decode b_LB_span 37 = .ok (.if_icmp .ne 12, 3) := by decide +kernel
theorem d_LB_span_40 : decode b_LB_span 40 = .ok (.aload_n 0, 1) := by decide +kernel
theorem d_LB_span_41 : decode b_LB_span 41 = .ok (.getfield 12, 3) := by decide +kernel
theorem d_LB_span_44 : decode b_LB_span 44 = .ok (.iload_n 1, 1) := by decide +kernel
theorem d_LB_span_45 : decode b_LB_span 45 = .ok (.invokevirtual 194, 3) := by decide +kernel
theorem d_LB_span_48 : decode b_LB_span 48 = .ok (.ireturn, 1) := by decide +kernel
theorem d_LB_span_49 : decode b_LB_span 49 = .ok (.aload_n 0, 1) := by decide +kernel
theorem d_LB_span_50 : decode b_LB_span 50 = .ok (.getfield 12, 3) := by decide +kernel
theorem d_LB_span_53 : decode b_LB_span 53 = .ok (.iconst 1, 1) := by decide +kernel
theorem d_LB_span_54 : decode b_LB_span 54 = .ok (.iload_n 1, 1) := by decide +kernel
theorem d_LB_span_55 : decode b_LB_span 55 = .ok (.ishl, 1) := by decide +kernel
theorem d_LB_span_56 : decode b_LB_span 56 = .ok (.invokevirtual 191, 3) := by decide +kernel
theorem d_LB_span_59 : decode b_LB_span 59 = .ok (.ifCond .eq 7, 3) := by decide +kernel
theorem d_LB_span_62 : decode b_LB_span 62 = .ok (.iconst 1, 1) := by decide +kernel
theorem d_LB_span_63 : decode b_LB_span 63 = .ok (.goto 11, 3) := by decide +kernel
theorem d_LB_span_66 : decode b_LB_span 66 = .ok (.aload_n 0, 1) := by decide +kernel
theorem d_LB_span_67 : decode b_LB_span 67 = .ok (.getfield 12, 3) := by decide +kernel
theorem d_LB_span_70 : decode b_LB_span 70 = .ok (.iload_n 1, 1) := by decide +kernel
theorem d_LB_span_71 : decode b_LB_span 71 = .ok (.invokevirtual 194, 3) := by decide +kernel
theorem d_LB_span_74 : decode b_LB_span 74 = .ok (.ireturn, 1) := by decide +kernel
def p_LB_span (n : Nat) (E : PE) (F : Nat → Nat → Int32) (G : Nat → Nat → Int32) (P : Nat → Nat → Option Nat) (N : Nat → Nat) (v1 : Int32) (v2 : Int32)  : Option (Int32) := (p_St_walker n E F G P N v1).bind fun x2 => (Option.elim x2 (some (-1)) (fun a3 => (if v2 < 0 then some (-1) else (if v2 ≤ 1 then (p_St_rowsAgree n E F G P N 0).bind fun x5 => (if x5 = 0 then some 0 else (if v2 = 1 then (p_St_greatestOwn n E F G P N v1).bind fun x13 => some x13 else (p_St_rowsAgree n E F G P N (1 <<< (v1 &&& 31))).bind fun x7 => (if x7 = 0 then (p_St_greatestOwn n E F G P N v1).bind fun x11 => some x11 else some 1 : Option (Int32)).bind fun x9 => some x9)) else some (-1)))))
set_option maxHeartbeats 4000000 in
theorem c_LB_span (l : Launch) (n : Nat) (E : PE) (F : Nat → Nat → Int32) (G : Nat → Nat → Int32) (P : Nat → Nat → Option Nat) (N : Nat → Nat) (dC : Nat → ClassId) (dI : Nat → Nat → Nat) (ad : Nat → Nat) (cI cZ cW cJ : ClassId) (v1 : Int32) (v2 : Int32)   : ROi l y_LB_span b_LB_span 3 (.int) (rL 7) (cB dC dI ad cI cZ cW cJ E F G P N) [.ref (ad 0), .int v1, .int v2] (p_LB_span n E F G P N v1 v2 ) := by
  refine en_roi (by decide) (Nat.le_of_ble_eq_true rfl) ?_
  intro z hf p e s m args below meth c ls hx hb hml hown hT hr hlk hB hl
  obtain ⟨hK, hP, hp, hi⟩ := hB
  have hl : lv_has ls 3 [(0, .ref (ad 0)), (1, .int v1), (2, .int v2)] := hl
  unfold p_LB_span at hf
  refine lv_aload_n hx hb d_LB_span_0 rfl (lv_at hl 0 rfl) ?_
  refine cg_0_0 hx hb hT hown hK hP fl_LB_12 d_LB_span_1 ?_
  refine lv_iload_n hx hb d_LB_span_4 rfl (lv_at hl 1 rfl) ?_
  obtain ⟨x2, hc1, hf⟩ := op_bind hf
  refine kr_q (C := R_St) (b0 := ad 1) (rest := []) hx hb hml hown hT cB_bl (cB_to hK hP hp hi) (va_recv hK hP (ci := 7) (q0 := 1) rfl rfl) (c_St_walker l n E F G P N dC dI ad cI cZ cW cJ v1 _ hc1) (cbW 1 hT cd_St_walker rfl rfl ini_St ml_LB_81 hd_St_walker ⟨Nat.le_of_ble_eq_true rfl, Nat.le_of_ble_eq_true rfl⟩) im_St_walker se_St_St_walker__St_walker rfl hl.1 rfl (Nat.le_of_ble_eq_true rfl) d_LB_span_5 ⟨Nat.zero_le _, Nat.zero_le _⟩ ?_
  cases x2 with
  | none =>
    have hf := op_en hf
    refine lv_ifnullN (tgt := 20) hx hb d_LB_span_8 (by decide) ?_
    refine lv_iconst (v := (-1)) hx hb d_LB_span_20 (by decide) ?_
    obtain rfl := op_i1 hf
    exact rt_si hx hb hr hlk rfl d_LB_span_21
  | some a3 =>
    have hf := op_es hf
    refine lv_ifnull hx hb d_LB_span_8 ?_
    refine lv_iload_n hx hb d_LB_span_11 rfl (lv_at hl 2 rfl) ?_
    refine lv_if_lt (tgt := 20) hx hb d_LB_span_12 (by decide) (fun hc => ?_) (fun hc => ?_)
    · have hf := op_t hc hf
      refine lv_iconst (v := (-1)) hx hb d_LB_span_20 (by decide) ?_
      obtain rfl := op_i1 hf
      exact rt_si hx hb hr hlk rfl d_LB_span_21
    · have hf := op_f hc hf
      refine lv_iload_n hx hb d_LB_span_15 rfl (lv_at hl 2 rfl) ?_
      refine lv_iconst (v := 1) hx hb d_LB_span_16 (by decide) ?_
      refine lv_icmp_le (tgt := 22) hx hb d_LB_span_17 (by decide) (fun hc => ?_) (fun hc => ?_)
      · have hf := op_t hc hf
        refine lv_aload_n hx hb d_LB_span_22 rfl (lv_at hl 0 rfl) ?_
        refine cg_0_0 hx hb hT hown hK hP fl_LB_12 d_LB_span_23 ?_
        refine lv_iconst (v := 0) hx hb d_LB_span_26 (by decide) ?_
        obtain ⟨x5, hc4, hf⟩ := op_bind hf
        refine kr_i (C := R_St) (b0 := ad 1) (rest := []) hx hb hml hown hT cB_bl (cB_to hK hP hp hi) (va_recv hK hP (ci := 7) (q0 := 1) rfl rfl) (c_St_rowsAgree l n E F G P N dC dI ad cI cZ cW cJ 0 _ hc4) (cbW 1 hT cd_St_rowsAgree rfl rfl ini_St ml_LB_191 hd_St_rowsAgree ⟨Nat.le_of_ble_eq_true rfl, Nat.le_of_ble_eq_true rfl⟩) im_St_rowsAgree se_St_St_rowsAgree__St_rowsAgree rfl hl.1 rfl (Nat.le_of_ble_eq_true rfl) d_LB_span_27 ⟨Nat.zero_le _, Nat.zero_le _⟩ ?_
        refine lv_if_ne (tgt := 35) hx hb d_LB_span_30 (by decide) (fun hc => ?_) (fun hc => ?_)
        · have hf := op_f hc hf
          refine lv_iload_n hx hb d_LB_span_35 rfl (lv_at hl 2 rfl) ?_
          refine lv_iconst (v := 1) hx hb d_LB_span_36 (by decide) ?_
          refine lv_icmp_ne (tgt := 49) hx hb d_LB_span_37 (by decide) (fun hc => ?_) (fun hc => ?_)
          · have hf := op_f hc hf
            refine lv_aload_n hx hb d_LB_span_49 rfl (lv_at hl 0 rfl) ?_
            refine cg_0_0 hx hb hT hown hK hP fl_LB_12 d_LB_span_50 ?_
            refine lv_iconst (v := 1) hx hb d_LB_span_53 (by decide) ?_
            refine lv_iload_n hx hb d_LB_span_54 rfl (lv_at hl 1 rfl) ?_
            refine lv_ishl hx hb d_LB_span_55 ?_
            obtain ⟨x7, hc6, hf⟩ := op_bind hf
            refine kr_i (C := R_St) (b0 := ad 1) (rest := []) hx hb hml hown hT cB_bl (cB_to hK hP hp hi) (va_recv hK hP (ci := 7) (q0 := 1) rfl rfl) (c_St_rowsAgree l n E F G P N dC dI ad cI cZ cW cJ (1 <<< (v1 &&& 31)) _ hc6) (cbW 1 hT cd_St_rowsAgree rfl rfl ini_St ml_LB_191 hd_St_rowsAgree ⟨Nat.le_of_ble_eq_true rfl, Nat.le_of_ble_eq_true rfl⟩) im_St_rowsAgree se_St_St_rowsAgree__St_rowsAgree rfl hl.1 rfl (Nat.le_of_ble_eq_true rfl) d_LB_span_56 ⟨Nat.zero_le _, Nat.zero_le _⟩ ?_
            obtain ⟨x9, he, hf⟩ := op_bind hf
            have K8 : ∀ (ls : Array Slot), lv_has ls 3 [] → W p l e (rL 7) s m args below meth c s.heap [] 0 0 (MQ below (fun _ st oc t => oc = .returned (some (.int z)) ∧ t.heap = st.heap) args s 0 0 (fun _ => False)) (F0 m 74 ls [.int x9]) := by
              intro ls hl
              obtain rfl := op_i1 hf
              exact rt_si hx hb hr hlk rfl d_LB_span_74
            have hf := he
            refine lv_if_eq (tgt := 66) hx hb d_LB_span_59 (by decide) (fun hc => ?_) (fun hc => ?_)
            · have hf := op_t hc hf
              refine lv_aload_n hx hb d_LB_span_66 rfl (lv_at hl 0 rfl) ?_
              refine cg_0_0 hx hb hT hown hK hP fl_LB_12 d_LB_span_67 ?_
              refine lv_iload_n hx hb d_LB_span_70 rfl (lv_at hl 1 rfl) ?_
              obtain ⟨x11, hc10, hf⟩ := op_bind hf
              refine kr_i (C := R_St) (b0 := ad 1) (rest := []) hx hb hml hown hT cB_bl (cB_to hK hP hp hi) (va_recv hK hP (ci := 7) (q0 := 1) rfl rfl) (c_St_greatestOwn l n E F G P N dC dI ad cI cZ cW cJ v1 _ hc10) (cbW 1 hT cd_St_greatestOwn rfl rfl ini_St ml_LB_194 hd_St_greatestOwn ⟨Nat.le_of_ble_eq_true rfl, Nat.le_of_ble_eq_true rfl⟩) im_St_greatestOwn se_St_St_greatestOwn__St_greatestOwn rfl hl.1 rfl (Nat.le_of_ble_eq_true rfl) d_LB_span_71 ⟨Nat.zero_le _, Nat.zero_le _⟩ ?_
              obtain rfl := op_i1 hf
              exact K8 ls (lv_sub hl [] rfl)
            · have hf := op_f hc hf
              refine lv_iconst (v := 1) hx hb d_LB_span_62 (by decide) ?_
              refine lv_goto (tgt := 74) hx hb d_LB_span_63 (by decide) ?_
              obtain rfl := op_i1 hf
              exact K8 ls (lv_sub hl [] rfl)
          · have hf := op_t hc hf
            refine lv_aload_n hx hb d_LB_span_40 rfl (lv_at hl 0 rfl) ?_
            refine cg_0_0 hx hb hT hown hK hP fl_LB_12 d_LB_span_41 ?_
            refine lv_iload_n hx hb d_LB_span_44 rfl (lv_at hl 1 rfl) ?_
            obtain ⟨x13, hc12, hf⟩ := op_bind hf
            refine kr_i (C := R_St) (b0 := ad 1) (rest := []) hx hb hml hown hT cB_bl (cB_to hK hP hp hi) (va_recv hK hP (ci := 7) (q0 := 1) rfl rfl) (c_St_greatestOwn l n E F G P N dC dI ad cI cZ cW cJ v1 _ hc12) (cbW 1 hT cd_St_greatestOwn rfl rfl ini_St ml_LB_194 hd_St_greatestOwn ⟨Nat.le_of_ble_eq_true rfl, Nat.le_of_ble_eq_true rfl⟩) im_St_greatestOwn se_St_St_greatestOwn__St_greatestOwn rfl hl.1 rfl (Nat.le_of_ble_eq_true rfl) d_LB_span_45 ⟨Nat.zero_le _, Nat.zero_le _⟩ ?_
            obtain rfl := op_i1 hf
            exact rt_si hx hb hr hlk rfl d_LB_span_48
        · have hf := op_t hc hf
          refine lv_iconst (v := 0) hx hb d_LB_span_33 (by decide) ?_
          obtain rfl := op_i1 hf
          exact rt_si hx hb hr hlk rfl d_LB_span_34
      · have hf := op_f hc hf
        refine lv_iconst (v := (-1)) hx hb d_LB_span_20 (by decide) ?_
        obtain rfl := op_i1 hf
        exact rt_si hx hb hr hlk rfl d_LB_span_21
theorem hd_LB_chance : y_LB_chance.cls ≠ "java/lang/invoke/MethodHandle" ∧ y_LB_chance.cls ≠ "java/lang/invoke/VarHandle" ∧ (parseMethodDescriptor y_LB_chance.desc).map (fun d => d.parameters.length) = some 4 := by decide +kernel
theorem d_LB_chance_0 : decode b_LB_chance 0 = .ok (.aload_n 0, 1) := by decide +kernel
theorem d_LB_chance_1 : decode b_LB_chance 1 = .ok (.getfield 12, 3) := by decide +kernel
theorem d_LB_chance_4 : decode b_LB_chance 4 = .ok (.iload_n 1, 1) := by decide +kernel
theorem d_LB_chance_5 : decode b_LB_chance 5 = .ok (.invokevirtual 81, 3) := by decide +kernel
theorem d_LB_chance_8 : decode b_LB_chance 8 = .ok (.ifnull 22, 3) := by decide +kernel
theorem d_LB_chance_11 : decode b_LB_chance 11 = .ok (.aload_n 0, 1) := by decide +kernel
theorem d_LB_chance_12 : decode b_LB_chance 12 = .ok (.getfield 12, 3) := by decide +kernel
theorem d_LB_chance_15 : decode b_LB_chance 15 = .ok (.iload_n 2, 1) := by decide +kernel
theorem d_LB_chance_16 : decode b_LB_chance 16 = .ok (.invokevirtual 121, 3) := by decide +kernel
theorem d_LB_chance_19 : decode b_LB_chance 19 = .ok (.ifCond .eq 11, 3) := by decide +kernel
theorem d_LB_chance_22 : decode b_LB_chance 22 = .ok (.iload_n 2, 1) := by decide +kernel
theorem d_LB_chance_23 : decode b_LB_chance 23 = .ok (.iload_n 1, 1) := by decide +kernel
theorem d_LB_chance_24 : decode b_LB_chance 24 = .ok (.ishr, 1) := by decide +kernel
theorem d_LB_chance_25 : decode b_LB_chance 25 = .ok (.iconst 1, 1) := by decide +kernel
theorem d_LB_chance_26 : decode b_LB_chance 26 = .ok (.iand, 1) := by decide +kernel
theorem d_LB_chance_27 : decode b_LB_chance 27 = .ok (.ifCond .ne 7, 3) := by decide +kernel
theorem d_LB_chance_30 : decode b_LB_chance 30 = .ok (.ldc2_w 197, 3) := by decide +kernel
theorem d_LB_chance_33 : decode b_LB_chance 33 = .ok (.lreturn, 1) := by decide +kernel
theorem d_LB_chance_34 : decode b_LB_chance 34 = .ok (.iload_n 3, 1) := by decide +kernel
theorem d_LB_chance_35 : decode b_LB_chance 35 = .ok (.ifCond .lt 20, 3) := by decide +kernel
theorem d_LB_chance_38 : decode b_LB_chance 38 = .ok (.iload_n 3, 1) := by decide +kernel
theorem d_LB_chance_39 : decode b_LB_chance 39 = .ok (.bipush 10, 2) := by decide +kernel
theorem d_LB_chance_41 : decode b_LB_chance 41 = .ok (.if_icmp .gt 14, 3) := by decide +kernel
theorem d_LB_chance_44 : decode b_LB_chance 44 = .ok (.iload 4, 2) := by decide +kernel
theorem d_LB_chance_46 : decode b_LB_chance 46 = .ok (.ifCond .lt 9, 3) := by decide +kernel
theorem d_LB_chance_49 : decode b_LB_chance 49 = .ok (.iload 4, 2) := by decide +kernel
theorem d_LB_chance_51 : decode b_LB_chance 51 = .ok (.iconst 1, 1) := by decide +kernel
theorem d_LB_chance_52 : decode b_LB_chance 52 = .ok (.if_icmp .le 7, 3) := by decide +kernel
theorem d_LB_chance_55 : decode b_LB_chance 55 = .ok (.ldc2_w 197, 3) := by decide +kernel
theorem d_LB_chance_58 : decode b_LB_chance 58 = .ok (.lreturn, 1) := by decide +kernel
theorem d_LB_chance_59 : decode b_LB_chance 59 = .ok (.aload_n 0, 1) := by decide +kernel
theorem d_LB_chance_60 : decode b_LB_chance 60 = .ok (.invokevirtual 125, 3) := by decide +kernel
theorem d_LB_chance_63 : decode b_LB_chance 63 = .ok (.aload_n 0, 1) := by decide +kernel
theorem d_LB_chance_64 : decode b_LB_chance 64 = .ok (.getfield 28, 3) := by decide +kernel
theorem d_LB_chance_67 : decode b_LB_chance 67 = .ok (.iload_n 1, 1) := by decide +kernel
theorem d_LB_chance_68 : decode b_LB_chance 68 = .ok (.iload_n 2, 1) := by decide +kernel
theorem d_LB_chance_69 : decode b_LB_chance 69 = .ok (.iconst 0, 1) := by decide +kernel
theorem d_LB_chance_70 : decode b_LB_chance 70 = .ok (.invokevirtual 199, 3) := by decide +kernel
theorem d_LB_chance_73 : decode b_LB_chance 73 = .ok (.istore 5, 2) := by decide +kernel
theorem d_LB_chance_75 : decode b_LB_chance 75 = .ok (.aload_n 0, 1) := by decide +kernel
theorem d_LB_chance_76 : decode b_LB_chance 76 = .ok (.getfield 28, 3) := by decide +kernel
theorem d_LB_chance_79 : decode b_LB_chance 79 = .ok (.iload_n 1, 1) := by decide +kernel
theorem d_LB_chance_80 : decode b_LB_chance 80 = .ok (.iload_n 2, 1) := by decide +kernel
theorem d_LB_chance_81 : decode b_LB_chance 81 = .ok (.iconst 0, 1) := by decide +kernel
theorem d_LB_chance_82 : decode b_LB_chance 82 = .ok (.invokevirtual 203, 3) := by decide +kernel
theorem d_LB_chance_85 : decode b_LB_chance 85 = .ok (.istore 6, 2) := by decide +kernel
theorem d_LB_chance_87 : decode b_LB_chance 87 = .ok (.iload_n 3, 1) := by decide +kernel
theorem d_LB_chance_88 : decode b_LB_chance 88 = .ok (.iload 6, 2) := by decide +kernel
theorem d_LB_chance_90 : decode b_LB_chance 90 = .ok (.iconst 1, 1) := by decide +kernel
theorem d_LB_chance_91 : decode b_LB_chance 91 = .ok (.iload 5, 2) := by decide +kernel
theorem d_LB_chance_93 : decode b_LB_chance 93 = .ok (.iconst 1, 1) := by decide +kernel
theorem d_LB_chance_94 : decode b_LB_chance 94 = .ok (.isub, 1) := by decide +kernel
theorem d_LB_chance_95 : decode b_LB_chance 95 = .ok (.invokestatic 206, 3) := by decide +kernel
theorem d_LB_chance_98 : decode b_LB_chance 98 = .ok (.invokestatic 206, 3) := by decide +kernel
theorem d_LB_chance_101 : decode b_LB_chance 101 = .ok (.imul, 1) := by decide +kernel
theorem d_LB_chance_102 : decode b_LB_chance 102 = .ok (.bipush 10, 2) := by decide +kernel
theorem d_LB_chance_104 : decode b_LB_chance 104 = .ok (.iload_n 3, 1) := by decide +kernel
theorem d_LB_chance_105 : decode b_LB_chance 105 = .ok (.isub, 1) := by decide +kernel
theorem d_LB_chance_106 : decode b_LB_chance 106 = .ok (.iload 6, 2) := by decide +kernel
theorem d_LB_chance_108 : decode b_LB_chance 108 = .ok (.iload 5, 2) := by decide +kernel
theorem d_LB_chance_110 : decode b_LB_chance 110 = .ok (.invokestatic 206, 3) := by decide +kernel
theorem d_LB_chance_113 : decode b_LB_chance 113 = .ok (.imul, 1) := by decide +kernel
theorem d_LB_chance_114 : decode b_LB_chance 114 = .ok (.iadd, 1) := by decide +kernel
theorem d_LB_chance_115 : decode b_LB_chance 115 = .ok (.istore 7, 2) := by decide +kernel
theorem d_LB_chance_117 : decode b_LB_chance 117 = .ok (.iload 7, 2) := by decide +kernel
theorem d_LB_chance_119 : decode b_LB_chance 119 = .ok (.invokestatic 211, 3) := by decide +kernel
theorem d_LB_chance_122 : decode b_LB_chance 122 = .ok (.istore 8, 2) := by decide +kernel
theorem d_LB_chance_124 : decode b_LB_chance 124 = .ok (.iload 4, 2) := by decide +kernel
theorem d_LB_chance_126 : decode b_LB_chance 126 = .ok (.ifCond .ne 12, 3) := by decide +kernel
theorem d_LB_chance_129 : decode b_LB_chance 129 = .ok (.iload 7, 2) := by decide +kernel
theorem d_LB_chance_131 : decode b_LB_chance 131 = .ok (.iload 8, 2) := by decide +kernel
theorem d_LB_chance_133 : decode b_LB_chance 133 = .ok (.idiv, 1) := by decide +kernel
theorem d_LB_chance_134 : decode b_LB_chance 134 = .ok (.i2l, 1) := by decide +kernel
theorem d_LB_chance_135 : decode b_LB_chance 135 = .ok (.goto 9, 3) := by decide +kernel
theorem d_LB_chance_138 : decode b_LB_chance 138 = .ok (.bipush 10, 2) := by decide +kernel
theorem d_LB_chance_140 : decode b_LB_chance 140 = .ok (.iload 8, 2) := by decide +kernel
theorem d_LB_chance_142 : decode b_LB_chance 142 = .ok (.idiv, 1) := by decide +kernel
theorem d_LB_chance_143 : decode b_LB_chance 143 = .ok (.i2l, 1) := by decide +kernel
theorem d_LB_chance_144 : decode b_LB_chance 144 = .ok (.lreturn, 1) := by decide +kernel
def p_LB_chance (n : Nat) (E : PE) (v1 : Int32) (v2 : Int32) (v3 : Int32) (v4 : Int32) (F : Nat → Nat → Int32) (G : Nat → Nat → Int32) (P : Nat → Nat → Option Nat) (N : Nat → Nat) : Option (Int64 × CU) := (p_St_walker n E F G P N v1).bind fun x2 => (Option.elim x2 (some ((-9223372036854775808), F, G, P, N)) (fun a3 => (p_St_isSet n E F G P N v2).bind fun x5 => (if x5 = 0 then some ((-9223372036854775808), F, G, P, N) else (if ((v2 >>> (v1 &&& 31)) &&& 1) = 0 then some ((-9223372036854775808), F, G, P, N) else (if v3 < 0 then some ((-9223372036854775808), F, G, P, N) else (if 10 < v3 then some ((-9223372036854775808), F, G, P, N) else (if v4 < 0 then some ((-9223372036854775808), F, G, P, N) else (if v4 ≤ 1 then (p_LB_refresh n E F G P N).bind fun (F8, G9, P10, N11) => (p_Go_takenBy n E v1 v2 0 F8 G9 P10 N11).bind fun (x13, F14, G15, P16, N17) => (p_Go_takenByOthers n E v1 v2 0 F14 G15 P16 N17).bind fun (x19, F20, G21, P22, N23) => (p_LB_sharedWithTen n (((v3 * (jmax x19 (jmax 1 (x13 - 1)))) + ((10 - v3) * (jmax x19 x13))))).bind fun x25 => (if v4 = 0 then if ¬ x25 = 0 then some (((v3 * (jmax x19 (jmax 1 (x13 - 1)))) + ((10 - v3) * (jmax x19 x13))) / x25).toInt64 else none else if ¬ x25 = 0 then some (10 / x25).toInt64 else none : Option (Int64)).bind fun x27 => some (x27, F20, G21, P22, N23) else some ((-9223372036854775808), F, G, P, N)))))))))
set_option maxHeartbeats 4000000 in
theorem c_LB_chance (l : Launch) (n : Nat) (E : PE) (v1 : Int32) (v2 : Int32) (v3 : Int32) (v4 : Int32) (F : Nat → Nat → Int32) (G : Nat → Nat → Int32) (P : Nat → Nat → Option Nat) (N : Nat → Nat)  : CMl l y_LB_chance b_LB_chance 9 (rL 16) E (fun ad => [.ref (ad 0), .int v1, .int v2, .int v3, .int v4]) F G P N (p_LB_chance n E v1 v2 v3 v4 F G P N) := by
  refine en_cl (by decide) (fun _ => Nat.le_of_ble_eq_true rfl) ?_
  intro z hf p e s m args below meth c dC dI ad cI cZ cW cJ A adK adV ls C hA h hr hlk hl
  have hl : lv_has ls 9 [(0, .ref (ad 0)), (1, .int v1), (2, .int v2), (3, .int v3), (4, .int v4)] := hl
  unfold p_LB_chance at hf
  obtain ⟨hx, hb, hml, hown, hT, hK, hTS, hTR, hpS, hi⟩ := id C
  refine lv_aload_n hx hb d_LB_chance_0 rfl (lv_at hl 0 rfl) ?_
  refine cg_0_0 hx hb hT hown hK h.1 fl_LB_12 d_LB_chance_1 ?_
  refine lv_iload_n hx hb d_LB_chance_4 rfl (lv_at hl 1 rfl) ?_
  obtain ⟨x2, hc1, hf⟩ := op_bind hf
  refine kr_q (C := R_St) (b0 := ad 1) (rest := []) hx hb hml hown hT cB_bl (cB_to hK h.1 (cpS hpS h) hi) (va_recv hK h.1 (ci := 7) (q0 := 1) rfl rfl) (c_St_walker l n E F G P N dC dI ad cI cZ cW cJ v1 _ hc1) (cbW 1 hT cd_St_walker rfl rfl ini_St ml_LB_81 hd_St_walker ⟨Nat.le_of_ble_eq_true rfl, Nat.le_of_ble_eq_true rfl⟩) im_St_walker se_St_St_walker__St_walker rfl hl.1 rfl (Nat.le_of_ble_eq_true rfl) d_LB_chance_5 ⟨Nat.zero_le _, Nat.zero_le _⟩ ?_
  cases x2 with
  | none =>
    have hf := op_en hf
    refine lv_ifnullN (tgt := 30) hx hb d_LB_chance_8 (by decide) ?_
    refine lv_ldc2 (v := (-9223372036854775808)) hx hb hown (hT _ kj_LB_197) d_LB_chance_30 ?_
    exact rt_cl C h hr hlk hf d_LB_chance_33
  | some a3 =>
    have hf := op_es hf
    refine lv_ifnull hx hb d_LB_chance_8 ?_
    refine lv_aload_n hx hb d_LB_chance_11 rfl (lv_at hl 0 rfl) ?_
    refine cg_0_0 hx hb hT hown hK h.1 fl_LB_12 d_LB_chance_12 ?_
    refine lv_iload_n hx hb d_LB_chance_15 rfl (lv_at hl 2 rfl) ?_
    obtain ⟨x5, hc4, hf⟩ := op_bind hf
    refine kr_i (C := R_St) (b0 := ad 1) (rest := []) hx hb hml hown hT cB_bl (cB_to hK h.1 (cpS hpS h) hi) (va_recv hK h.1 (ci := 7) (q0 := 1) rfl rfl) (c_St_isSet l n E F G P N dC dI ad cI cZ cW cJ v2 _ hc4) (cbW 1 hT cd_St_isSet rfl rfl ini_St ml_LB_121 hd_St_isSet ⟨Nat.le_of_ble_eq_true rfl, Nat.le_of_ble_eq_true rfl⟩) im_St_isSet se_St_St_isSet__St_isSet rfl hl.1 rfl (Nat.le_of_ble_eq_true rfl) d_LB_chance_16 ⟨Nat.zero_le _, Nat.zero_le _⟩ ?_
    refine lv_if_eq (tgt := 30) hx hb d_LB_chance_19 (by decide) (fun hc => ?_) (fun hc => ?_)
    · have hf := op_t hc hf
      refine lv_ldc2 (v := (-9223372036854775808)) hx hb hown (hT _ kj_LB_197) d_LB_chance_30 ?_
      exact rt_cl C h hr hlk hf d_LB_chance_33
    · have hf := op_f hc hf
      refine lv_iload_n hx hb d_LB_chance_22 rfl (lv_at hl 2 rfl) ?_
      refine lv_iload_n hx hb d_LB_chance_23 rfl (lv_at hl 1 rfl) ?_
      refine lv_ishr hx hb d_LB_chance_24 ?_
      refine lv_iconst (v := 1) hx hb d_LB_chance_25 (by decide) ?_
      refine lv_iand hx hb d_LB_chance_26 ?_
      refine lv_if_ne (tgt := 34) hx hb d_LB_chance_27 (by decide) (fun hc => ?_) (fun hc => ?_)
      · have hf := op_f hc hf
        refine lv_iload_n hx hb d_LB_chance_34 rfl (lv_at hl 3 rfl) ?_
        refine lv_if_lt (tgt := 55) hx hb d_LB_chance_35 (by decide) (fun hc => ?_) (fun hc => ?_)
        · have hf := op_t hc hf
          refine lv_ldc2 (v := (-9223372036854775808)) hx hb hown (hT _ kj_LB_197) d_LB_chance_55 ?_
          exact rt_cl C h hr hlk hf d_LB_chance_58
        · have hf := op_f hc hf
          refine lv_iload_n hx hb d_LB_chance_38 rfl (lv_at hl 3 rfl) ?_
          refine lv_bipush (v := 10) hx hb d_LB_chance_39 (by decide) ?_
          refine lv_icmp_gt (tgt := 55) hx hb d_LB_chance_41 (by decide) (fun hc => ?_) (fun hc => ?_)
          · have hf := op_t hc hf
            refine lv_ldc2 (v := (-9223372036854775808)) hx hb hown (hT _ kj_LB_197) d_LB_chance_55 ?_
            exact rt_cl C h hr hlk hf d_LB_chance_58
          · have hf := op_f hc hf
            refine lv_iload hx hb d_LB_chance_44 (lv_at hl 4 rfl) ?_
            refine lv_if_lt (tgt := 55) hx hb d_LB_chance_46 (by decide) (fun hc => ?_) (fun hc => ?_)
            · have hf := op_t hc hf
              refine lv_ldc2 (v := (-9223372036854775808)) hx hb hown (hT _ kj_LB_197) d_LB_chance_55 ?_
              exact rt_cl C h hr hlk hf d_LB_chance_58
            · have hf := op_f hc hf
              refine lv_iload hx hb d_LB_chance_49 (lv_at hl 4 rfl) ?_
              refine lv_iconst (v := 1) hx hb d_LB_chance_51 (by decide) ?_
              refine lv_icmp_le (tgt := 59) hx hb d_LB_chance_52 (by decide) (fun hc => ?_) (fun hc => ?_)
              · have hf := op_t hc hf
                refine lv_aload_n hx hb d_LB_chance_59 rfl (lv_at hl 0 rfl) ?_
                obtain ⟨⟨F8, G9, P10, N11⟩, hc6, hf⟩ := op_bind hf
                try dsimp only at hf
                refine kx_v (C0 := R_LB) (b0 := ad 0) (rest := []) C h hA rfl (va_recv hK h.1 (ci := 11) (q0 := 0) rfl rfl) (c_LB_refresh l n E  F G P N) hc6 (cbW 0 hT cd_LB_refresh rfl rfl ini_LB ml_LB_125 hd_LB_refresh ⟨Nat.le_of_ble_eq_true rfl, Nat.le_of_ble_eq_true rfl⟩) im_LB_refresh sp_LB_refresh rfl hl.1 rfl (Nat.le_of_ble_eq_true rfl) d_LB_chance_60 ⟨Nat.zero_le _, Nat.zero_le _⟩ (fun H locs h => ?_)
                refine lv_aload_n hx hb d_LB_chance_63 rfl (lv_at hl 0 rfl) ?_
                refine cg_0_4 hx hb hT hown hK h.1 fl_LB_28 d_LB_chance_64 ?_
                refine lv_iload_n hx hb d_LB_chance_67 rfl (lv_at hl 1 rfl) ?_
                refine lv_iload_n hx hb d_LB_chance_68 rfl (lv_at hl 2 rfl) ?_
                refine lv_iconst (v := 0) hx hb d_LB_chance_69 (by decide) ?_
                obtain ⟨⟨x13, F14, G15, P16, N17⟩, hc12, hf⟩ := op_bind hf
                try dsimp only at hf
                refine kx_i (C0 := R_Go) (b0 := ad 3) (rest := []) C h hA rfl (va_recv hK h.1 (ci := 1) (q0 := 3) rfl rfl) (c_Go_takenBy l n E v1 v2 0 F8 G9 P10 N11) hc12 (cbW 3 hT cd_Go_takenBy rfl rfl ini_Go ml_LB_199 hd_Go_takenBy ⟨Nat.le_of_ble_eq_true rfl, Nat.le_of_ble_eq_true rfl⟩) im_Go_takenBy se_Go_Go_takenBy__Go_takenBy rfl hl.1 rfl (Nat.le_of_ble_eq_true rfl) d_LB_chance_70 ⟨Nat.zero_le _, Nat.zero_le _⟩ (fun H locs h => ?_)
                refine lv_istore (lv' := [(5, .int x13), (0, .ref (ad 0)), (1, .int v1), (2, .int v2), (3, .int v3), (4, .int v4)]) hx hb d_LB_chance_73 hl (by decide) rfl (fun ls hl => ?_)
                refine lv_aload_n hx hb d_LB_chance_75 rfl (lv_at hl 1 rfl) ?_
                refine cg_0_4 hx hb hT hown hK h.1 fl_LB_28 d_LB_chance_76 ?_
                refine lv_iload_n hx hb d_LB_chance_79 rfl (lv_at hl 2 rfl) ?_
                refine lv_iload_n hx hb d_LB_chance_80 rfl (lv_at hl 3 rfl) ?_
                refine lv_iconst (v := 0) hx hb d_LB_chance_81 (by decide) ?_
                obtain ⟨⟨x19, F20, G21, P22, N23⟩, hc18, hf⟩ := op_bind hf
                try dsimp only at hf
                refine kx_i (C0 := R_Go) (b0 := ad 3) (rest := []) C h hA rfl (va_recv hK h.1 (ci := 1) (q0 := 3) rfl rfl) (c_Go_takenByOthers l n E v1 v2 0 F14 G15 P16 N17) hc18 (cbW 3 hT cd_Go_takenByOthers rfl rfl ini_Go ml_LB_203 hd_Go_takenByOthers ⟨Nat.le_of_ble_eq_true rfl, Nat.le_of_ble_eq_true rfl⟩) im_Go_takenByOthers se_Go_Go_takenByOthers__Go_takenByOthers rfl hl.1 rfl (Nat.le_of_ble_eq_true rfl) d_LB_chance_82 ⟨Nat.zero_le _, Nat.zero_le _⟩ (fun H locs h => ?_)
                refine lv_istore (lv' := [(6, .int x19), (5, .int x13), (0, .ref (ad 0)), (1, .int v1), (2, .int v2), (3, .int v3), (4, .int v4)]) hx hb d_LB_chance_85 hl (by decide) rfl (fun ls hl => ?_)
                refine lv_iload_n hx hb d_LB_chance_87 rfl (lv_at hl 5 rfl) ?_
                refine lv_iload hx hb d_LB_chance_88 (lv_at hl 0 rfl) ?_
                refine lv_iconst (v := 1) hx hb d_LB_chance_90 (by decide) ?_
                refine lv_iload hx hb d_LB_chance_91 (lv_at hl 1 rfl) ?_
                refine lv_iconst (v := 1) hx hb d_LB_chance_93 (by decide) ?_
                refine lv_isub hx hb d_LB_chance_94 ?_
                refine k_jmax hx hb hml hown hl.1 (hT _ ml_LB_206) hT d_LB_chance_95 (Nat.le_of_ble_eq_true rfl) (Nat.le_of_ble_eq_true rfl) (Nat.le_of_ble_eq_true rfl) ⟨Nat.zero_le _, Nat.zero_le _⟩ ?_
                refine k_jmax hx hb hml hown hl.1 (hT _ ml_LB_206) hT d_LB_chance_98 (Nat.le_of_ble_eq_true rfl) (Nat.le_of_ble_eq_true rfl) (Nat.le_of_ble_eq_true rfl) ⟨Nat.zero_le _, Nat.zero_le _⟩ ?_
                refine lv_imul hx hb d_LB_chance_101 ?_
                refine lv_bipush (v := 10) hx hb d_LB_chance_102 (by decide) ?_
                refine lv_iload_n hx hb d_LB_chance_104 rfl (lv_at hl 5 rfl) ?_
                refine lv_isub hx hb d_LB_chance_105 ?_
                refine lv_iload hx hb d_LB_chance_106 (lv_at hl 0 rfl) ?_
                refine lv_iload hx hb d_LB_chance_108 (lv_at hl 1 rfl) ?_
                refine k_jmax hx hb hml hown hl.1 (hT _ ml_LB_206) hT d_LB_chance_110 (Nat.le_of_ble_eq_true rfl) (Nat.le_of_ble_eq_true rfl) (Nat.le_of_ble_eq_true rfl) ⟨Nat.zero_le _, Nat.zero_le _⟩ ?_
                refine lv_imul hx hb d_LB_chance_113 ?_
                refine lv_iadd hx hb d_LB_chance_114 ?_
                refine lv_istore (lv' := [(7, .int ((v3 * (jmax x19 (jmax 1 (x13 - 1)))) + ((10 - v3) * (jmax x19 x13)))), (6, .int x19), (5, .int x13), (0, .ref (ad 0)), (1, .int v1), (2, .int v2), (3, .int v3), (4, .int v4)]) hx hb d_LB_chance_115 hl (by decide) rfl (fun ls hl => ?_)
                refine lv_iload hx hb d_LB_chance_117 (lv_at hl 0 rfl) ?_
                obtain ⟨x25, hc24, hf⟩ := op_bind hf
                refine ks_i (rest := []) hx hb hml hown hT (c_LB_sharedWithTen l n (((v3 * (jmax x19 (jmax 1 (x13 - 1)))) + ((10 - v3) * (jmax x19 x13)))) _ hc24) (cbW 1 hT cd_LB_sharedWithTen rfl rfl ini_LB ml_LB_211 hd_LB_sharedWithTen ⟨Nat.le_of_ble_eq_true rfl, Nat.le_of_ble_eq_true rfl⟩) sm_LB_sharedWithTen rfl hl.1 rfl (Nat.le_of_ble_eq_true rfl) d_LB_chance_119 ⟨Nat.zero_le _, Nat.zero_le _⟩ ?_
                refine lv_istore (lv' := [(8, .int x25), (7, .int ((v3 * (jmax x19 (jmax 1 (x13 - 1)))) + ((10 - v3) * (jmax x19 x13)))), (6, .int x19), (5, .int x13), (0, .ref (ad 0)), (1, .int v1), (2, .int v2), (3, .int v3), (4, .int v4)]) hx hb d_LB_chance_122 hl (by decide) rfl (fun ls hl => ?_)
                refine lv_iload hx hb d_LB_chance_124 (lv_at hl 8 rfl) ?_
                obtain ⟨x27, he, hf⟩ := op_bind hf
                have K26 : ∀ (ls : Array Slot), lv_has ls 9 [] → ∀ (H : Heap) (locs : List Loc), cH A s.heap dC dI ad cI cZ cW cJ F20 G21 P22 N23 H locs → W p l e (rL 16) s m args below meth c H locs 0 0 (cQl dC dI ad cI cZ cW cJ A below args s z) (F0 m 144 ls [.long x27]) := by
                  intro ls hl H locs h
                  exact rt_cl C h hr hlk hf d_LB_chance_144
                have hf := he
                refine lv_if_ne (tgt := 138) hx hb d_LB_chance_126 (by decide) (fun hc => ?_) (fun hc => ?_)
                · have hf := op_f hc hf
                  refine lv_bipush (v := 10) hx hb d_LB_chance_138 (by decide) ?_
                  refine lv_iload hx hb d_LB_chance_140 (lv_at hl 0 rfl) ?_
                  obtain ⟨h28, hf⟩ := op_if hf
                  refine lv_idiv hx hb d_LB_chance_142 h28 ?_
                  refine lv_i2l hx hb d_LB_chance_143 rfl ?_
                  obtain rfl := op_i1 hf
                  exact K26 ls (lv_sub hl [] rfl) H locs h
                · have hf := op_t hc hf
                  refine lv_iload hx hb d_LB_chance_129 (lv_at hl 1 rfl) ?_
                  refine lv_iload hx hb d_LB_chance_131 (lv_at hl 0 rfl) ?_
                  obtain ⟨h29, hf⟩ := op_if hf
                  refine lv_idiv hx hb d_LB_chance_133 h29 ?_
                  refine lv_i2l hx hb d_LB_chance_134 rfl ?_
                  refine lv_goto (tgt := 144) hx hb d_LB_chance_135 (by decide) ?_
                  obtain rfl := op_i1 hf
                  exact K26 ls (lv_sub hl [] rfl) H locs h
              · have hf := op_f hc hf
                refine lv_ldc2 (v := (-9223372036854775808)) hx hb hown (hT _ kj_LB_197) d_LB_chance_55 ?_
                exact rt_cl C h hr hlk hf d_LB_chance_58
      · have hf := op_t hc hf
        refine lv_ldc2 (v := (-9223372036854775808)) hx hb hown (hT _ kj_LB_197) d_LB_chance_30 ?_
        exact rt_cl C h hr hlk hf d_LB_chance_33
theorem hd_LB_book : y_LB_book.cls ≠ "java/lang/invoke/MethodHandle" ∧ y_LB_book.cls ≠ "java/lang/invoke/VarHandle" ∧ (parseMethodDescriptor y_LB_book.desc).map (fun d => d.parameters.length) = some 1 := by decide +kernel
theorem d_LB_book_0 : decode b_LB_book 0 = .ok (.iload_n 1, 1) := by decide +kernel
theorem d_LB_book_1 : decode b_LB_book 1 = .ok (.iconst (-1), 1) := by decide +kernel
theorem d_LB_book_2 : decode b_LB_book 2 = .ok (.if_icmp .ne 13, 3) := by decide +kernel
theorem d_LB_book_5 : decode b_LB_book 5 = .ok (.aload_n 0, 1) := by decide +kernel
theorem d_LB_book_6 : decode b_LB_book 6 = .ok (.getfield 12, 3) := by decide +kernel
theorem d_LB_book_9 : decode b_LB_book 9 = .ok (.iconst 0, 1) := by decide +kernel
theorem d_LB_book_10 : decode b_LB_book 10 = .ok (.putfield 214, 3) := by decide +kernel
theorem d_LB_book_13 : decode b_LB_book 13 = .ok (.iconst 0, 1) := by decide +kernel
theorem d_LB_book_14 : decode b_LB_book 14 = .ok (.ireturn, 1) := by decide +kernel
theorem d_LB_book_15 : decode b_LB_book 15 = .ok (.iload_n 1, 1) := by decide +kernel
theorem d_LB_book_16 : decode b_LB_book 16 = .ok (.ifCond .eq 14, 3) := by decide +kernel
theorem d_LB_book_19 : decode b_LB_book 19 = .ok (.aload_n 0, 1) := by decide +kernel
theorem d_LB_book_20 : decode b_LB_book 20 = .ok (.getfield 12, 3) := by decide +kernel
theorem d_LB_book_23 : decode b_LB_book 23 = .ok (.iload_n 1, 1) := by decide +kernel
theorem d_LB_book_24 : decode b_LB_book 24 = .ok (.invokevirtual 121, 3) := by decide +kernel
theorem d_LB_book_27 : decode b_LB_book 27 = .ok (.ifCond .ne 6, 3) := by decide +kernel
theorem d_LB_book_30 : decode b_LB_book 30 = .ok (.bipush (-2), 2) := by decide +kernel
theorem d_LB_book_32 : decode b_LB_book 32 = .ok (.ireturn, 1) := by decide +kernel
theorem d_LB_book_33 : decode b_LB_book 33 = .ok (.aload_n 0, 1) := by decide +kernel
theorem d_LB_book_34 : decode b_LB_book 34 = .ok (.getfield 12, 3) := by decide +kernel
theorem d_LB_book_37 : decode b_LB_book 37 = .ok (.getfield 214, 3) := by decide +kernel
theorem d_LB_book_40 : decode b_LB_book 40 = .ok (.bipush 12, 2) := by decide +kernel
theorem d_LB_book_42 : decode b_LB_book 42 = .ok (.if_icmp .lt 6, 3) := by decide +kernel
theorem d_LB_book_45 : decode b_LB_book 45 = .ok (.bipush (-4), 2) := by decide +kernel
theorem d_LB_book_47 : decode b_LB_book 47 = .ok (.ireturn, 1) := by decide +kernel
theorem d_LB_book_48 : decode b_LB_book 48 = .ok (.aload_n 0, 1) := by decide +kernel
theorem d_LB_book_49 : decode b_LB_book 49 = .ok (.getfield 12, 3) := by decide +kernel
theorem d_LB_book_52 : decode b_LB_book 52 = .ok (.getfield 217, 3) := by decide +kernel
theorem d_LB_book_55 : decode b_LB_book 55 = .ok (.aload_n 0, 1) := by decide +kernel
theorem d_LB_book_56 : decode b_LB_book 56 = .ok (.getfield 12, 3) := by decide +kernel
theorem d_LB_book_59 : decode b_LB_book 59 = .ok (.getfield 214, 3) := by decide +kernel
theorem d_LB_book_62 : decode b_LB_book 62 = .ok (.iload_n 1, 1) := by decide +kernel
theorem d_LB_book_63 : decode b_LB_book 63 = .ok (.iastore, 1) := by decide +kernel
theorem d_LB_book_64 : decode b_LB_book 64 = .ok (.aload_n 0, 1) := by decide +kernel
theorem d_LB_book_65 : decode b_LB_book 65 = .ok (.getfield 12, 3) := by decide +kernel
theorem d_LB_book_68 : decode b_LB_book 68 = .ok (.dup, 1) := by decide +kernel
theorem d_LB_book_69 : decode b_LB_book 69 = .ok (.getfield 214, 3) := by decide +kernel
theorem d_LB_book_72 : decode b_LB_book 72 = .ok (.iconst 1, 1) := by decide +kernel
theorem d_LB_book_73 : decode b_LB_book 73 = .ok (.iadd, 1) := by decide +kernel
theorem d_LB_book_74 : decode b_LB_book 74 = .ok (.putfield 214, 3) := by decide +kernel
theorem d_LB_book_77 : decode b_LB_book 77 = .ok (.aload_n 0, 1) := by decide +kernel
theorem d_LB_book_78 : decode b_LB_book 78 = .ok (.getfield 12, 3) := by decide +kernel
theorem d_LB_book_81 : decode b_LB_book 81 = .ok (.getfield 214, 3) := by decide +kernel
theorem d_LB_book_84 : decode b_LB_book 84 = .ok (.ireturn, 1) := by decide +kernel
def p_LB_book (n : Nat) (E : PE) (v1 : Int32) (F : Nat → Nat → Int32) (G : Nat → Nat → Int32) (P : Nat → Nat → Option Nat) (N : Nat → Nat) : Option (Int32 × CU) := (if v1 = (-1) then some (0, (upR F 1 14 0), G, P, N) else (if v1 = 0 then some ((-2), F, G, P, N) else (p_St_isSet n E F G P N v1).bind fun x2 => (if x2 = 0 then some ((-2), F, G, P, N) else (if (F 1 14) < 12 then if ix (F 1 14) 12 then some (((upR F 1 14 ((F 1 14) + 1)) 1 14), (upR F 1 14 ((F 1 14) + 1)), (upR G 15 (F 1 14).toNatClampNeg v1), P, N) else none else some ((-4), F, G, P, N)))))
set_option maxHeartbeats 4000000 in
theorem c_LB_book (l : Launch) (n : Nat) (E : PE) (v1 : Int32) (F : Nat → Nat → Int32) (G : Nat → Nat → Int32) (P : Nat → Nat → Option Nat) (N : Nat → Nat)  : CMi l y_LB_book b_LB_book 2 .int (rL 7) E (fun ad => [.ref (ad 0), .int v1]) F G P N (p_LB_book n E v1 F G P N) := by
  refine en_ci (by decide) (fun _ => Nat.le_of_ble_eq_true rfl) ?_
  intro z hf p e s m args below meth c dC dI ad cI cZ cW cJ A adK adV ls C hA h hr hlk hl
  have hl : lv_has ls 2 [(0, .ref (ad 0)), (1, .int v1)] := hl
  unfold p_LB_book at hf
  obtain ⟨hx, hb, hml, hown, hT, hK, hTS, hTR, hpS, hi⟩ := id C
  refine lv_iload_n hx hb d_LB_book_0 rfl (lv_at hl 1 rfl) ?_
  refine lv_iconst (v := (-1)) hx hb d_LB_book_1 (by decide) ?_
  refine lv_icmp_ne (tgt := 15) hx hb d_LB_book_2 (by decide) (fun hc => ?_) (fun hc => ?_)
  · have hf := op_f hc hf
    refine lv_iload_n hx hb d_LB_book_15 rfl (lv_at hl 1 rfl) ?_
    refine lv_if_eq (tgt := 30) hx hb d_LB_book_16 (by decide) (fun hc => ?_) (fun hc => ?_)
    · have hf := op_t hc hf
      refine lv_bipush (v := (-2)) hx hb d_LB_book_30 (by decide) ?_
      exact rt_ci C h hr hlk hf rfl d_LB_book_32
    · have hf := op_f hc hf
      refine lv_aload_n hx hb d_LB_book_19 rfl (lv_at hl 0 rfl) ?_
      refine cg_0_0 hx hb hT hown hK h.1 fl_LB_12 d_LB_book_20 ?_
      refine lv_iload_n hx hb d_LB_book_23 rfl (lv_at hl 1 rfl) ?_
      obtain ⟨x2, hc1, hf⟩ := op_bind hf
      refine kr_i (C := R_St) (b0 := ad 1) (rest := []) hx hb hml hown hT cB_bl (cB_to hK h.1 (cpS hpS h) hi) (va_recv hK h.1 (ci := 7) (q0 := 1) rfl rfl) (c_St_isSet l n E F G P N dC dI ad cI cZ cW cJ v1 _ hc1) (cbW 1 hT cd_St_isSet rfl rfl ini_St ml_LB_121 hd_St_isSet ⟨Nat.le_of_ble_eq_true rfl, Nat.le_of_ble_eq_true rfl⟩) im_St_isSet se_St_St_isSet__St_isSet rfl hl.1 rfl (Nat.le_of_ble_eq_true rfl) d_LB_book_24 ⟨Nat.zero_le _, Nat.zero_le _⟩ ?_
      refine lv_if_ne (tgt := 33) hx hb d_LB_book_27 (by decide) (fun hc => ?_) (fun hc => ?_)
      · have hf := op_f hc hf
        refine lv_aload_n hx hb d_LB_book_33 rfl (lv_at hl 0 rfl) ?_
        refine cg_0_0 hx hb hT hown hK h.1 fl_LB_12 d_LB_book_34 ?_
        refine cg_1_14 hx hb hT hown hK h.1 fl_LB_214 d_LB_book_37 ?_
        refine lv_bipush (v := 12) hx hb d_LB_book_40 (by decide) ?_
        refine lv_icmp_lt (tgt := 48) hx hb d_LB_book_42 (by decide) (fun hc => ?_) (fun hc => ?_)
        · have hf := op_t hc hf
          refine lv_aload_n hx hb d_LB_book_48 rfl (lv_at hl 0 rfl) ?_
          refine cg_0_0 hx hb hT hown hK h.1 fl_LB_12 d_LB_book_49 ?_
          refine cg_1_13 hx hb hT hown hK h.1 fl_LB_217 d_LB_book_52 ?_
          refine lv_aload_n hx hb d_LB_book_55 rfl (lv_at hl 0 rfl) ?_
          refine cg_0_0 hx hb hT hown hK h.1 fl_LB_12 d_LB_book_56 ?_
          refine cg_1_14 hx hb hT hown hK h.1 fl_LB_214 d_LB_book_59 ?_
          refine lv_iload_n hx hb d_LB_book_62 rfl (lv_at hl 1 rfl) ?_
          obtain ⟨h3, hf⟩ := op_if hf
          refine cs_15 hx hb hK h rfl h3 d_LB_book_63 (fun H locs h => ?_)
          refine lv_aload_n hx hb d_LB_book_64 rfl (lv_at hl 0 rfl) ?_
          refine cg_0_0 hx hb hT hown hK h.1 fl_LB_12 d_LB_book_65 ?_
          refine lv_dup hx hb d_LB_book_68 rfl ?_
          refine cg_1_14 hx hb hT hown hK h.1 fl_LB_214 d_LB_book_69 ?_
          refine lv_iconst (v := 1) hx hb d_LB_book_72 (by decide) ?_
          refine lv_iadd hx hb d_LB_book_73 ?_
          refine cp_1_14 hx hb hT hown hK h fl_LB_214 d_LB_book_74 (fun H locs h => ?_)
          refine lv_aload_n hx hb d_LB_book_77 rfl (lv_at hl 0 rfl) ?_
          refine cg_0_0 hx hb hT hown hK h.1 fl_LB_12 d_LB_book_78 ?_
          refine cg_1_14 hx hb hT hown hK h.1 fl_LB_214 d_LB_book_81 ?_
          exact rt_ci C h hr hlk hf rfl d_LB_book_84
        · have hf := op_f hc hf
          refine lv_bipush (v := (-4)) hx hb d_LB_book_45 (by decide) ?_
          exact rt_ci C h hr hlk hf rfl d_LB_book_47
      · have hf := op_t hc hf
        refine lv_bipush (v := (-2)) hx hb d_LB_book_30 (by decide) ?_
        exact rt_ci C h hr hlk hf rfl d_LB_book_32
  · have hf := op_t hc hf
    refine lv_aload_n hx hb d_LB_book_5 rfl (lv_at hl 0 rfl) ?_
    refine cg_0_0 hx hb hT hown hK h.1 fl_LB_12 d_LB_book_6 ?_
    refine lv_iconst (v := 0) hx hb d_LB_book_9 (by decide) ?_
    refine cp_1_14 hx hb hT hown hK h fl_LB_214 d_LB_book_10 (fun H locs h => ?_)
    refine lv_iconst (v := 0) hx hb d_LB_book_13 (by decide) ?_
    exact rt_ci C h hr hlk hf rfl d_LB_book_14
theorem hd_LB_looked : y_LB_looked.cls ≠ "java/lang/invoke/MethodHandle" ∧ y_LB_looked.cls ≠ "java/lang/invoke/VarHandle" ∧ (parseMethodDescriptor y_LB_looked.desc).map (fun d => d.parameters.length) = some 1 := by decide +kernel
theorem d_LB_looked_0 : decode b_LB_looked 0 = .ok (.iload_n 1, 1) := by decide +kernel
theorem d_LB_looked_1 : decode b_LB_looked 1 = .ok (.ifCond .lt 8, 3) := by decide +kernel
theorem d_LB_looked_4 : decode b_LB_looked 4 = .ok (.iload_n 1, 1) := by decide +kernel
theorem d_LB_looked_5 : decode b_LB_looked 5 = .ok (.iconst 1, 1) := by decide +kernel
theorem d_LB_looked_6 : decode b_LB_looked 6 = .ok (.if_icmp .le 5, 3) := by decide +kernel
theorem d_LB_looked_9 : decode b_LB_looked 9 = .ok (.iconst (-1), 1) := by decide +kernel
theorem d_LB_looked_10 : decode b_LB_looked 10 = .ok (.ireturn, 1) := by decide +kernel
theorem d_LB_looked_11 : decode b_LB_looked 11 = .ok (.aload_n 0, 1) := by decide +kernel
theorem d_LB_looked_12 : decode b_LB_looked 12 = .ok (.invokevirtual 125, 3) := by decide +kernel
theorem d_LB_looked_15 : decode b_LB_looked 15 = .ok (.aload_n 0, 1) := by decide +kernel
theorem d_LB_looked_16 : decode b_LB_looked 16 = .ok (.getfield 12, 3) := by decide +kernel
theorem d_LB_looked_19 : decode b_LB_looked 19 = .ok (.getfield 97, 3) := by decide +kernel
theorem d_LB_looked_22 : decode b_LB_looked 22 = .ok (.istore_n 2, 1) := by decide +kernel
theorem d_LB_looked_23 : decode b_LB_looked 23 = .ok (.aload_n 0, 1) := by decide +kernel
theorem d_LB_looked_24 : decode b_LB_looked 24 = .ok (.getfield 12, 3) := by decide +kernel
theorem d_LB_looked_27 : decode b_LB_looked 27 = .ok (.getfield 118, 3) := by decide +kernel
theorem d_LB_looked_30 : decode b_LB_looked 30 = .ok (.istore_n 3, 1) := by decide +kernel
theorem d_LB_looked_31 : decode b_LB_looked 31 = .ok (.iconst 0, 1) := by decide +kernel
theorem d_LB_looked_32 : decode b_LB_looked 32 = .ok (.istore 4, 2) := by decide +kernel
theorem d_LB_looked_34 : decode b_LB_looked 34 = .ok (.iconst 0, 1) := by decide +kernel
theorem d_LB_looked_35 : decode b_LB_looked 35 = .ok (.istore 5, 2) := by decide +kernel
theorem d_LB_looked_37 : decode b_LB_looked 37 = .ok (.iload 5, 2) := by decide +kernel
theorem d_LB_looked_39 : decode b_LB_looked 39 = .ok (.aload_n 0, 1) := by decide +kernel
theorem d_LB_looked_40 : decode b_LB_looked 40 = .ok (.getfield 12, 3) := by decide +kernel
theorem d_LB_looked_43 : decode b_LB_looked 43 = .ok (.getfield 214, 3) := by decide +kernel
theorem d_LB_looked_46 : decode b_LB_looked 46 = .ok (.if_icmp .ge 102, 3) := by decide +kernel
theorem d_LB_looked_49 : decode b_LB_looked 49 = .ok (.aload_n 0, 1) := by decide +kernel
theorem d_LB_looked_50 : decode b_LB_looked 50 = .ok (.getfield 12, 3) := by decide +kernel
theorem d_LB_looked_53 : decode b_LB_looked 53 = .ok (.getfield 217, 3) := by decide +kernel
theorem d_LB_looked_56 : decode b_LB_looked 56 = .ok (.iload 5, 2) := by decide +kernel
theorem d_LB_looked_58 : decode b_LB_looked 58 = .ok (.iaload, 1) := by decide +kernel
theorem d_LB_looked_59 : decode b_LB_looked 59 = .ok (.istore 6, 2) := by decide +kernel
theorem d_LB_looked_61 : decode b_LB_looked 61 = .ok (.iload_n 3, 1) := by decide +kernel
theorem d_LB_looked_62 : decode b_LB_looked 62 = .ok (.iconst 1, 1) := by decide +kernel
theorem d_LB_looked_63 : decode b_LB_looked 63 = .ok (.if_icmp .ne 7, 3) := by decide +kernel
theorem d_LB_looked_66 : decode b_LB_looked 66 = .ok (.iload_n 2, 1) := by decide +kernel
theorem d_LB_looked_67 : decode b_LB_looked 67 = .ok (.goto 14, 3) := by decide +kernel
theorem d_LB_looked_70 : decode b_LB_looked 70 = .ok (.aload_n 0, 1) := by decide +kernel
theorem d_LB_looked_71 : decode b_LB_looked 71 = .ok (.getfield 12, 3) := by decide +kernel
theorem d_LB_looked_74 : decode b_LB_looked 74 = .ok (.invokevirtual 168, 3) := by decide +kernel
theorem d_LB_looked_77 : decode b_LB_looked 77 = .ok (.iload_n 2, 1) := by decide +kernel
theorem d_LB_looked_78 : decode b_LB_looked 78 = .ok (.iconst (-1), 1) := by decide +kernel
theorem d_LB_looked_79 : decode b_LB_looked 79 = .ok (.ixor, 1) := by decide +kernel
theorem d_LB_looked_80 : decode b_LB_looked 80 = .ok (.iand, 1) := by decide +kernel
theorem d_LB_looked_81 : decode b_LB_looked 81 = .ok (.istore 7, 2) := by decide +kernel
theorem d_LB_looked_83 : decode b_LB_looked 83 = .ok (.iload 6, 2) := by decide +kernel
theorem d_LB_looked_85 : decode b_LB_looked 85 = .ok (.iload 7, 2) := by decide +kernel
theorem d_LB_looked_87 : decode b_LB_looked 87 = .ok (.iconst (-1), 1) := by decide +kernel
theorem d_LB_looked_88 : decode b_LB_looked 88 = .ok (.ixor, 1) := by decide +kernel
theorem d_LB_looked_89 : decode b_LB_looked 89 = .ok (.iand, 1) := by decide +kernel
theorem d_LB_looked_90 : decode b_LB_looked 90 = .ok (.ifCond .ne 16, 3) := by decide +kernel
theorem d_LB_looked_93 : decode b_LB_looked 93 = .ok (.aload_n 0, 1) := by decide +kernel
theorem d_LB_looked_94 : decode b_LB_looked 94 = .ok (.getfield 28, 3) := by decide +kernel
theorem d_LB_looked_97 : decode b_LB_looked 97 = .ok (.iload 6, 2) := by decide +kernel
theorem d_LB_looked_99 : decode b_LB_looked 99 = .ok (.iload_n 3, 1) := by decide +kernel
theorem d_LB_looked_100 : decode b_LB_looked 100 = .ok (.invokevirtual 132, 3) := by decide +kernel
theorem d_LB_looked_103 : decode b_LB_looked 103 = .ok (.ifCond .ne 15, 3) := by decide +kernel
theorem d_LB_looked_106 : decode b_LB_looked 106 = .ok (.iload_n 1, 1) := by decide +kernel
theorem d_LB_looked_107 : decode b_LB_looked 107 = .ok (.ifCond .ne 8, 3) := by decide +kernel
theorem d_LB_looked_110 : decode b_LB_looked 110 = .ok (.iload 5, 2) := by decide +kernel
theorem d_LB_looked_112 : decode b_LB_looked 112 = .ok (.goto 5, 3) := by decide +kernel
theorem d_LB_looked_115 : decode b_LB_looked 115 = .ok (.iload 4, 2) := by decide +kernel
theorem d_LB_looked_117 : decode b_LB_looked 117 = .ok (.ireturn, 1) := by decide +kernel
theorem d_LB_looked_118 : decode b_LB_looked 118 = .ok (.iload 4, 2) := by decide +kernel
theorem d_LB_looked_120 : decode b_LB_looked 120 = .ok (.aload_n 0, 1) := by decide +kernel
theorem d_LB_looked_121 : decode b_LB_looked 121 = .ok (.getfield 28, 3) := by decide +kernel
theorem d_LB_looked_124 : decode b_LB_looked 124 = .ok (.iload 6, 2) := by decide +kernel
theorem d_LB_looked_126 : decode b_LB_looked 126 = .ok (.iload_n 3, 1) := by decide +kernel
theorem d_LB_looked_127 : decode b_LB_looked 127 = .ok (.invokevirtual 128, 3) := by decide +kernel
theorem d_LB_looked_130 : decode b_LB_looked 130 = .ok (.iadd, 1) := by decide +kernel
theorem d_LB_looked_131 : decode b_LB_looked 131 = .ok (.istore 4, 2) := by decide +kernel
theorem d_LB_looked_133 : decode b_LB_looked 133 = .ok (.iload_n 2, 1) := by decide +kernel
theorem d_LB_looked_134 : decode b_LB_looked 134 = .ok (.iload 6, 2) := by decide +kernel
theorem d_LB_looked_136 : decode b_LB_looked 136 = .ok (.ixor, 1) := by decide +kernel
theorem d_LB_looked_137 : decode b_LB_looked 137 = .ok (.istore_n 2, 1) := by decide +kernel
theorem d_LB_looked_138 : decode b_LB_looked 138 = .ok (.iconst 1, 1) := by decide +kernel
theorem d_LB_looked_139 : decode b_LB_looked 139 = .ok (.iload_n 3, 1) := by decide +kernel
theorem d_LB_looked_140 : decode b_LB_looked 140 = .ok (.isub, 1) := by decide +kernel
theorem d_LB_looked_141 : decode b_LB_looked 141 = .ok (.istore_n 3, 1) := by decide +kernel
theorem d_LB_looked_142 : decode b_LB_looked 142 = .ok (.iinc 5 1, 3) := by decide +kernel
theorem d_LB_looked_145 : decode b_LB_looked 145 = .ok (.goto (-108), 3) := by decide +kernel
theorem d_LB_looked_148 : decode b_LB_looked 148 = .ok (.iload_n 1, 1) := by decide +kernel
theorem d_LB_looked_149 : decode b_LB_looked 149 = .ok (.ifCond .ne 8, 3) := by decide +kernel
theorem d_LB_looked_152 : decode b_LB_looked 152 = .ok (.bipush (-5), 2) := by decide +kernel
theorem d_LB_looked_154 : decode b_LB_looked 154 = .ok (.goto 5, 3) := by decide +kernel
theorem d_LB_looked_157 : decode b_LB_looked 157 = .ok (.iload 4, 2) := by decide +kernel
theorem d_LB_looked_159 : decode b_LB_looked 159 = .ok (.ireturn, 1) := by decide +kernel
def l_LB_looked_37 (n : Nat) (E : PE)  (v1 : Int32) (F : Nat → Nat → Int32) (G : Nat → Nat → Int32) (P : Nat → Nat → Option Nat) (N : Nat → Nat) : Nat → Int32 → Int32 → Int32 → Int32 → Option (Int32 × CU)
  | 0, _, _, _, _ => none
  | k + 1, v2, v3, v4, v5 => (if (F 1 14) ≤ v5 then (if v1 = 0 then some ((-5), F, G, P, N) else some (v4, F, G, P, N)) else if ix v5 12 then (if v3 = 1 then some v2 else (p_St_everybody n E F G P N ).bind fun x11 => some (x11 &&& (v2 ^^^ (-1))) : Option (Int32)).bind fun x9 => (if ((G 15 v5.toNatClampNeg) &&& (x9 ^^^ (-1))) = 0 then (p_Go_canBe n E F G P N (G 15 v5.toNatClampNeg) v3).bind fun x13 => (if x13 = 0 then (if v1 = 0 then some (v5, F, G, P, N) else some (v4, F, G, P, N)) else (p_Go_minutesOf n E F G P N (G 15 v5.toNatClampNeg) v3).bind fun x15 => l_LB_looked_37 n E v1 F G P N k (v2 ^^^ (G 15 v5.toNatClampNeg)) (1 - v3) (v4 + x15) (v5 + 1)) else (if v1 = 0 then some (v5, F, G, P, N) else some (v4, F, G, P, N))) else none)
set_option maxHeartbeats 4000000 in
theorem wl_LB_looked_37  {p : Program} {l : Launch} {e : Env} {s : State} {m : MethodId} {args : Array Value} {below : List Frame} {meth : Method} {c : Code} {dC : Nat → ClassId} {dI : Nat → Nat → Nat} {ad : Nat → Nat} {cI cZ cW cJ : ClassId} {A : Nat → Prop} {adK adV : Nat → Nat} {E : PE} (C : cC p s m args c b_LB_looked 8 "LanternBridge" dC dI cI cZ cW cJ A adK adV E) (hA : ∀ q, s.heap.size ≤ q → A q) (hr : meth.sig.returnType = some .int) (hlk : meth.locks = false) (n : Nat)  (v1 : Int32) (F : Nat → Nat → Int32) (G : Nat → Nat → Int32) (P : Nat → Nat → Option Nat) (N : Nat → Nat) : ∀ (k : Nat) (v2 : Int32) (v3 : Int32) (v4 : Int32) (v5 : Int32) (z : Int32 × CU), l_LB_looked_37 n E v1 F G P N k v2 v3 v4 v5 = some z → ∀ (ls : Array Slot), lv_has ls 8 [(0, .ref (ad 0)), (1, .int v1), (2, .int v2), (3, .int v3), (4, .int v4), (5, .int v5)] → ∀ (H : Heap) (locs : List Loc), cH A s.heap dC dI ad cI cZ cW cJ F G P N H locs → W p l e (rL 16) s m args below meth c H locs 0 0 (cQi dC dI ad cI cZ cW cJ A below args s z) (F0 m 37 ls []) := by
  obtain ⟨hx, hb, hml, hown, hT, hK, hTS, hTR, hpS, hi⟩ := id C
  intro k
  induction k with
  | zero => intro v2 v3 v4 v5 z hf; exact absurd hf (by unfold l_LB_looked_37; exact fun h9 => by cases h9)
  | succ k ih =>
    intro v2 v3 v4 v5 z hf ls hl H locs h
    unfold l_LB_looked_37 at hf
    refine lv_iload hx hb d_LB_looked_37 (lv_at hl 5 rfl) ?_
    refine lv_aload_n hx hb d_LB_looked_39 rfl (lv_at hl 0 rfl) ?_
    refine cg_0_0 hx hb hT hown hK h.1 fl_LB_12 d_LB_looked_40 ?_
    refine cg_1_14 hx hb hT hown hK h.1 fl_LB_214 d_LB_looked_43 ?_
    refine lv_icmp_ge (tgt := 148) hx hb d_LB_looked_46 (by decide) (fun hc => ?_) (fun hc => ?_)
    · have hf := op_t hc hf
      refine lv_iload_n hx hb d_LB_looked_148 rfl (lv_at hl 1 rfl) ?_
      refine lv_if_ne (tgt := 157) hx hb d_LB_looked_149 (by decide) (fun hc => ?_) (fun hc => ?_)
      · have hf := op_f hc hf
        refine lv_iload hx hb d_LB_looked_157 (lv_at hl 4 rfl) ?_
        exact rt_ci C h hr hlk hf rfl d_LB_looked_159
      · have hf := op_t hc hf
        refine lv_bipush (v := (-5)) hx hb d_LB_looked_152 (by decide) ?_
        refine lv_goto (tgt := 159) hx hb d_LB_looked_154 (by decide) ?_
        exact rt_ci C h hr hlk hf rfl d_LB_looked_159
    · have hf := op_f hc hf
      refine lv_aload_n hx hb d_LB_looked_49 rfl (lv_at hl 0 rfl) ?_
      refine cg_0_0 hx hb hT hown hK h.1 fl_LB_12 d_LB_looked_50 ?_
      refine cg_1_13 hx hb hT hown hK h.1 fl_LB_217 d_LB_looked_53 ?_
      refine lv_iload hx hb d_LB_looked_56 (lv_at hl 5 rfl) ?_
      obtain ⟨h7, hf⟩ := op_if hf
      refine ca_15 hx hb hK h.1 rfl h7 d_LB_looked_58 ?_
      refine lv_istore (lv' := [(6, .int (G 15 v5.toNatClampNeg)), (0, .ref (ad 0)), (1, .int v1), (2, .int v2), (3, .int v3), (4, .int v4), (5, .int v5)]) hx hb d_LB_looked_59 hl (by decide) rfl (fun ls hl => ?_)
      refine lv_iload_n hx hb d_LB_looked_61 rfl (lv_at hl 4 rfl) ?_
      refine lv_iconst (v := 1) hx hb d_LB_looked_62 (by decide) ?_
      obtain ⟨x9, he, hf⟩ := op_bind hf
      have K8 : ∀ (ls : Array Slot), lv_has ls 8 [(0, .ref (ad 0)), (1, .int v1), (2, .int v2), (3, .int v3), (4, .int v4), (5, .int v5), (6, .int (G 15 v5.toNatClampNeg))] → ∀ (H : Heap) (locs : List Loc), cH A s.heap dC dI ad cI cZ cW cJ F G P N H locs → W p l e (rL 16) s m args below meth c H locs 0 0 (cQi dC dI ad cI cZ cW cJ A below args s z) (F0 m 81 ls [.int x9]) := by
        intro ls hl H locs h
        refine lv_istore (lv' := [(7, .int x9), (0, .ref (ad 0)), (1, .int v1), (2, .int v2), (3, .int v3), (4, .int v4), (5, .int v5), (6, .int (G 15 v5.toNatClampNeg))]) hx hb d_LB_looked_81 hl (by decide) rfl (fun ls hl => ?_)
        refine lv_iload hx hb d_LB_looked_83 (lv_at hl 7 rfl) ?_
        refine lv_iload hx hb d_LB_looked_85 (lv_at hl 0 rfl) ?_
        refine lv_iconst (v := (-1)) hx hb d_LB_looked_87 (by decide) ?_
        refine lv_ixor hx hb d_LB_looked_88 ?_
        refine lv_iand hx hb d_LB_looked_89 ?_
        refine lv_if_ne (tgt := 106) hx hb d_LB_looked_90 (by decide) (fun hc => ?_) (fun hc => ?_)
        · have hf := op_f hc hf
          refine lv_iload_n hx hb d_LB_looked_106 rfl (lv_at hl 2 rfl) ?_
          refine lv_if_ne (tgt := 115) hx hb d_LB_looked_107 (by decide) (fun hc => ?_) (fun hc => ?_)
          · have hf := op_f hc hf
            refine lv_iload hx hb d_LB_looked_115 (lv_at hl 5 rfl) ?_
            exact rt_ci C h hr hlk hf rfl d_LB_looked_117
          · have hf := op_t hc hf
            refine lv_iload hx hb d_LB_looked_110 (lv_at hl 6 rfl) ?_
            refine lv_goto (tgt := 117) hx hb d_LB_looked_112 (by decide) ?_
            exact rt_ci C h hr hlk hf rfl d_LB_looked_117
        · have hf := op_t hc hf
          refine lv_aload_n hx hb d_LB_looked_93 rfl (lv_at hl 1 rfl) ?_
          refine cg_0_4 hx hb hT hown hK h.1 fl_LB_28 d_LB_looked_94 ?_
          refine lv_iload hx hb d_LB_looked_97 (lv_at hl 7 rfl) ?_
          refine lv_iload_n hx hb d_LB_looked_99 rfl (lv_at hl 4 rfl) ?_
          obtain ⟨x13, hc12, hf⟩ := op_bind hf
          refine kr_i (C := R_Go) (b0 := ad 3) (rest := []) hx hb hml hown hT cB_bl (cB_to hK h.1 (cpS hpS h) hi) (va_recv hK h.1 (ci := 1) (q0 := 3) rfl rfl) (c_Go_canBe l n E F G P N dC dI ad cI cZ cW cJ (G 15 v5.toNatClampNeg) v3 _ hc12) (cbW 2 hT cd_Go_canBe rfl rfl ini_Go ml_LB_132 hd_Go_canBe ⟨Nat.le_of_ble_eq_true rfl, Nat.le_of_ble_eq_true rfl⟩) im_Go_canBe se_Go_Go_canBe__Go_canBe rfl hl.1 rfl (Nat.le_of_ble_eq_true rfl) d_LB_looked_100 ⟨Nat.zero_le _, Nat.zero_le _⟩ ?_
          refine lv_if_ne (tgt := 118) hx hb d_LB_looked_103 (by decide) (fun hc => ?_) (fun hc => ?_)
          · have hf := op_f hc hf
            refine lv_iload hx hb d_LB_looked_118 (lv_at hl 5 rfl) ?_
            refine lv_aload_n hx hb d_LB_looked_120 rfl (lv_at hl 1 rfl) ?_
            refine cg_0_4 hx hb hT hown hK h.1 fl_LB_28 d_LB_looked_121 ?_
            refine lv_iload hx hb d_LB_looked_124 (lv_at hl 7 rfl) ?_
            refine lv_iload_n hx hb d_LB_looked_126 rfl (lv_at hl 4 rfl) ?_
            obtain ⟨x15, hc14, hf⟩ := op_bind hf
            refine kr_i (C := R_Go) (b0 := ad 3) (rest := [.int v4]) hx hb hml hown hT cB_bl (cB_to hK h.1 (cpS hpS h) hi) (va_recv hK h.1 (ci := 1) (q0 := 3) rfl rfl) (c_Go_minutesOf l n E F G P N dC dI ad cI cZ cW cJ (G 15 v5.toNatClampNeg) v3 _ hc14) (cbW 2 hT cd_Go_minutesOf rfl rfl ini_Go ml_LB_128 hd_Go_minutesOf ⟨Nat.le_of_ble_eq_true rfl, Nat.le_of_ble_eq_true rfl⟩) im_Go_minutesOf se_Go_Go_minutesOf__Go_minutesOf rfl hl.1 rfl (Nat.le_of_ble_eq_true rfl) d_LB_looked_127 ⟨Nat.zero_le _, Nat.zero_le _⟩ ?_
            refine lv_iadd hx hb d_LB_looked_130 ?_
            refine lv_istore (lv' := [(4, .int (v4 + x15)), (7, .int x9), (0, .ref (ad 0)), (1, .int v1), (2, .int v2), (3, .int v3), (5, .int v5), (6, .int (G 15 v5.toNatClampNeg))]) hx hb d_LB_looked_131 hl (by decide) rfl (fun ls hl => ?_)
            refine lv_iload_n hx hb d_LB_looked_133 rfl (lv_at hl 4 rfl) ?_
            refine lv_iload hx hb d_LB_looked_134 (lv_at hl 7 rfl) ?_
            refine lv_ixor hx hb d_LB_looked_136 ?_
            refine lv_istore_n (lv' := [(2, .int (v2 ^^^ (G 15 v5.toNatClampNeg))), (4, .int (v4 + x15)), (7, .int x9), (0, .ref (ad 0)), (1, .int v1), (3, .int v3), (5, .int v5), (6, .int (G 15 v5.toNatClampNeg))]) hx hb d_LB_looked_137 rfl hl (by decide) rfl (fun ls hl => ?_)
            refine lv_iconst (v := 1) hx hb d_LB_looked_138 (by decide) ?_
            refine lv_iload_n hx hb d_LB_looked_139 rfl (lv_at hl 5 rfl) ?_
            refine lv_isub hx hb d_LB_looked_140 ?_
            refine lv_istore_n (lv' := [(3, .int (1 - v3)), (2, .int (v2 ^^^ (G 15 v5.toNatClampNeg))), (4, .int (v4 + x15)), (7, .int x9), (0, .ref (ad 0)), (1, .int v1), (5, .int v5), (6, .int (G 15 v5.toNatClampNeg))]) hx hb d_LB_looked_141 rfl hl (by decide) rfl (fun ls hl => ?_)
            refine lv_iinc (v := (v5 + 1)) (lv' := [(5, .int (v5 + 1)), (3, .int (1 - v3)), (2, .int (v2 ^^^ (G 15 v5.toNatClampNeg))), (4, .int (v4 + x15)), (7, .int x9), (0, .ref (ad 0)), (1, .int v1), (6, .int (G 15 v5.toNatClampNeg))]) hx hb d_LB_looked_142 hl (k := 6) rfl rfl (by decide) rfl (fun ls hl => ?_)
            refine lv_goto (tgt := 37) hx hb d_LB_looked_145 (by decide) ?_
            exact ih (v2 ^^^ (G 15 v5.toNatClampNeg)) (1 - v3) (v4 + x15) (v5 + 1) _ hf ls (lv_sub hl [5, 6, 2, 1, 3, 0] rfl) H locs h
          · have hf := op_t hc hf
            refine lv_iload_n hx hb d_LB_looked_106 rfl (lv_at hl 2 rfl) ?_
            refine lv_if_ne (tgt := 115) hx hb d_LB_looked_107 (by decide) (fun hc => ?_) (fun hc => ?_)
            · have hf := op_f hc hf
              refine lv_iload hx hb d_LB_looked_115 (lv_at hl 5 rfl) ?_
              exact rt_ci C h hr hlk hf rfl d_LB_looked_117
            · have hf := op_t hc hf
              refine lv_iload hx hb d_LB_looked_110 (lv_at hl 6 rfl) ?_
              refine lv_goto (tgt := 117) hx hb d_LB_looked_112 (by decide) ?_
              exact rt_ci C h hr hlk hf rfl d_LB_looked_117
      have hf := he
      refine lv_icmp_ne (tgt := 70) hx hb d_LB_looked_63 (by decide) (fun hc => ?_) (fun hc => ?_)
      · have hf := op_f hc hf
        refine lv_aload_n hx hb d_LB_looked_70 rfl (lv_at hl 1 rfl) ?_
        refine cg_0_0 hx hb hT hown hK h.1 fl_LB_12 d_LB_looked_71 ?_
        obtain ⟨x11, hc10, hf⟩ := op_bind hf
        refine kr_i (C := R_St) (b0 := ad 1) (rest := []) hx hb hml hown hT cB_bl (cB_to hK h.1 (cpS hpS h) hi) (va_recv hK h.1 (ci := 7) (q0 := 1) rfl rfl) (c_St_everybody l n E F G P N dC dI ad cI cZ cW cJ  _ hc10) (cbW 0 hT cd_St_everybody rfl rfl ini_St ml_LB_168 hd_St_everybody ⟨Nat.le_of_ble_eq_true rfl, Nat.le_of_ble_eq_true rfl⟩) im_St_everybody se_St_St_everybody__St_everybody rfl hl.1 rfl (Nat.le_of_ble_eq_true rfl) d_LB_looked_74 ⟨Nat.zero_le _, Nat.zero_le _⟩ ?_
        refine lv_iload_n hx hb d_LB_looked_77 rfl (lv_at hl 3 rfl) ?_
        refine lv_iconst (v := (-1)) hx hb d_LB_looked_78 (by decide) ?_
        refine lv_ixor hx hb d_LB_looked_79 ?_
        refine lv_iand hx hb d_LB_looked_80 ?_
        obtain rfl := op_i1 hf
        exact K8 ls (lv_sub hl [1, 2, 3, 4, 5, 6, 0] rfl) H locs h
      · have hf := op_t hc hf
        refine lv_iload_n hx hb d_LB_looked_66 rfl (lv_at hl 3 rfl) ?_
        refine lv_goto (tgt := 81) hx hb d_LB_looked_67 (by decide) ?_
        obtain rfl := op_i1 hf
        exact K8 ls (lv_sub hl [1, 2, 3, 4, 5, 6, 0] rfl) H locs h
def p_LB_looked (n : Nat) (E : PE) (v1 : Int32) (F : Nat → Nat → Int32) (G : Nat → Nat → Int32) (P : Nat → Nat → Option Nat) (N : Nat → Nat) : Option (Int32 × CU) := (if v1 < 0 then some ((-1), F, G, P, N) else (if v1 ≤ 1 then (p_LB_refresh n E F G P N).bind fun (F3, G4, P5, N6) => l_LB_looked_37 n E v1 F3 G4 P5 N6 n (F3 1 6) (F3 1 7) 0 0 else some ((-1), F, G, P, N)))
set_option maxHeartbeats 4000000 in
theorem c_LB_looked (l : Launch) (n : Nat) (E : PE) (v1 : Int32) (F : Nat → Nat → Int32) (G : Nat → Nat → Int32) (P : Nat → Nat → Option Nat) (N : Nat → Nat)  : CMi l y_LB_looked b_LB_looked 8 .int (rL 16) E (fun ad => [.ref (ad 0), .int v1]) F G P N (p_LB_looked n E v1 F G P N) := by
  refine en_ci (by decide) (fun _ => Nat.le_of_ble_eq_true rfl) ?_
  intro z hf p e s m args below meth c dC dI ad cI cZ cW cJ A adK adV ls C hA h hr hlk hl
  have hl : lv_has ls 8 [(0, .ref (ad 0)), (1, .int v1)] := hl
  unfold p_LB_looked at hf
  obtain ⟨hx, hb, hml, hown, hT, hK, hTS, hTR, hpS, hi⟩ := id C
  refine lv_iload_n hx hb d_LB_looked_0 rfl (lv_at hl 1 rfl) ?_
  refine lv_if_lt (tgt := 9) hx hb d_LB_looked_1 (by decide) (fun hc => ?_) (fun hc => ?_)
  · have hf := op_t hc hf
    refine lv_iconst (v := (-1)) hx hb d_LB_looked_9 (by decide) ?_
    exact rt_ci C h hr hlk hf rfl d_LB_looked_10
  · have hf := op_f hc hf
    refine lv_iload_n hx hb d_LB_looked_4 rfl (lv_at hl 1 rfl) ?_
    refine lv_iconst (v := 1) hx hb d_LB_looked_5 (by decide) ?_
    refine lv_icmp_le (tgt := 11) hx hb d_LB_looked_6 (by decide) (fun hc => ?_) (fun hc => ?_)
    · have hf := op_t hc hf
      refine lv_aload_n hx hb d_LB_looked_11 rfl (lv_at hl 0 rfl) ?_
      obtain ⟨⟨F3, G4, P5, N6⟩, hc1, hf⟩ := op_bind hf
      try dsimp only at hf
      refine kx_v (C0 := R_LB) (b0 := ad 0) (rest := []) C h hA rfl (va_recv hK h.1 (ci := 11) (q0 := 0) rfl rfl) (c_LB_refresh l n E  F G P N) hc1 (cbW 0 hT cd_LB_refresh rfl rfl ini_LB ml_LB_125 hd_LB_refresh ⟨Nat.le_of_ble_eq_true rfl, Nat.le_of_ble_eq_true rfl⟩) im_LB_refresh sp_LB_refresh rfl hl.1 rfl (Nat.le_of_ble_eq_true rfl) d_LB_looked_12 ⟨Nat.zero_le _, Nat.zero_le _⟩ (fun H locs h => ?_)
      refine lv_aload_n hx hb d_LB_looked_15 rfl (lv_at hl 0 rfl) ?_
      refine cg_0_0 hx hb hT hown hK h.1 fl_LB_12 d_LB_looked_16 ?_
      refine cg_1_6 hx hb hT hown hK h.1 fl_LB_97 d_LB_looked_19 ?_
      refine lv_istore_n (lv' := [(2, .int (F3 1 6)), (0, .ref (ad 0)), (1, .int v1)]) hx hb d_LB_looked_22 rfl hl (by decide) rfl (fun ls hl => ?_)
      refine lv_aload_n hx hb d_LB_looked_23 rfl (lv_at hl 1 rfl) ?_
      refine cg_0_0 hx hb hT hown hK h.1 fl_LB_12 d_LB_looked_24 ?_
      refine cg_1_7 hx hb hT hown hK h.1 fl_LB_118 d_LB_looked_27 ?_
      refine lv_istore_n (lv' := [(3, .int (F3 1 7)), (2, .int (F3 1 6)), (0, .ref (ad 0)), (1, .int v1)]) hx hb d_LB_looked_30 rfl hl (by decide) rfl (fun ls hl => ?_)
      refine lv_iconst (v := 0) hx hb d_LB_looked_31 (by decide) ?_
      refine lv_istore (lv' := [(4, .int 0), (3, .int (F3 1 7)), (2, .int (F3 1 6)), (0, .ref (ad 0)), (1, .int v1)]) hx hb d_LB_looked_32 hl (by decide) rfl (fun ls hl => ?_)
      refine lv_iconst (v := 0) hx hb d_LB_looked_34 (by decide) ?_
      refine lv_istore (lv' := [(5, .int 0), (4, .int 0), (3, .int (F3 1 7)), (2, .int (F3 1 6)), (0, .ref (ad 0)), (1, .int v1)]) hx hb d_LB_looked_35 hl (by decide) rfl (fun ls hl => ?_)
      exact wl_LB_looked_37 C hA hr hlk n v1 F3 G4 P5 N6 n (F3 1 6) (F3 1 7) 0 0 _ hf ls (lv_sub hl [4, 5, 3, 2, 1, 0] rfl) H locs h
    · have hf := op_f hc hf
      refine lv_iconst (v := (-1)) hx hb d_LB_looked_9 (by decide) ?_
      exact rt_ci C h hr hlk hf rfl d_LB_looked_10
theorem hd_LB_trace : y_LB_trace.cls ≠ "java/lang/invoke/MethodHandle" ∧ y_LB_trace.cls ≠ "java/lang/invoke/VarHandle" ∧ (parseMethodDescriptor y_LB_trace.desc).map (fun d => d.parameters.length) = some 1 := by decide +kernel
theorem d_LB_trace_0 : decode b_LB_trace 0 = .ok (.iload_n 1, 1) := by decide +kernel
theorem d_LB_trace_1 : decode b_LB_trace 1 = .ok (.ifCond .lt 19, 3) := by decide +kernel
theorem d_LB_trace_4 : decode b_LB_trace 4 = .ok (.iload_n 1, 1) := by decide +kernel
theorem d_LB_trace_5 : decode b_LB_trace 5 = .ok (.aload_n 0, 1) := by decide +kernel
theorem d_LB_trace_6 : decode b_LB_trace 6 = .ok (.getfield 21, 3) := by decide +kernel
theorem d_LB_trace_9 : decode b_LB_trace 9 = .ok (.iconst 0, 1) := by decide +kernel
theorem d_LB_trace_10 : decode b_LB_trace 10 = .ok (.iaload, 1) := by decide +kernel
theorem d_LB_trace_11 : decode b_LB_trace 11 = .ok (.if_icmp .ge 9, 3) := by decide +kernel
theorem d_LB_trace_14 : decode b_LB_trace 14 = .ok (.iload_n 1, 1) := by decide +kernel
theorem d_LB_trace_15 : decode b_LB_trace 15 = .ok (.bipush 20, 2) := by decide +kernel
theorem d_LB_trace_17 : decode b_LB_trace 17 = .ok (.if_icmp .lt 5, 3) := by decide +kernel
theorem d_LB_trace_20 : decode b_LB_trace 20 = .ok (.iconst (-1), 1) := by decide +kernel
theorem d_LB_trace_21 : decode b_LB_trace 21 = .ok (.ireturn, 1) := by decide +kernel
theorem d_LB_trace_22 : decode b_LB_trace 22 = .ok (.aload_n 0, 1) := by decide +kernel
theorem d_LB_trace_23 : decode b_LB_trace 23 = .ok (.getfield 21, 3) := by decide +kernel
theorem d_LB_trace_26 : decode b_LB_trace 26 = .ok (.iconst 1, 1) := by decide +kernel
theorem d_LB_trace_27 : decode b_LB_trace 27 = .ok (.iload_n 1, 1) := by decide +kernel
theorem d_LB_trace_28 : decode b_LB_trace 28 = .ok (.iadd, 1) := by decide +kernel
theorem d_LB_trace_29 : decode b_LB_trace 29 = .ok (.iaload, 1) := by decide +kernel
theorem d_LB_trace_30 : decode b_LB_trace 30 = .ok (.ireturn, 1) := by decide +kernel
def p_LB_trace (n : Nat) (E : PE) (F : Nat → Nat → Int32) (G : Nat → Nat → Int32) (P : Nat → Nat → Option Nat) (N : Nat → Nat) (v1 : Int32)  : Option (Int32) := (if v1 < 0 then some (-1) else (if (G 5 0) ≤ v1 then some (-1) else (if v1 < 20 then if ix (1 + v1) 21 then some (G 5 (1 + v1).toNatClampNeg) else none else some (-1))))
set_option maxHeartbeats 4000000 in
theorem c_LB_trace (l : Launch) (n : Nat) (E : PE) (F : Nat → Nat → Int32) (G : Nat → Nat → Int32) (P : Nat → Nat → Option Nat) (N : Nat → Nat) (dC : Nat → ClassId) (dI : Nat → Nat → Nat) (ad : Nat → Nat) (cI cZ cW cJ : ClassId) (v1 : Int32)   : ROi l y_LB_trace b_LB_trace 2 (.int) (rL 5) (cB dC dI ad cI cZ cW cJ E F G P N) [.ref (ad 0), .int v1] (p_LB_trace n E F G P N v1 ) := by
  refine en_roi (by decide) (Nat.le_of_ble_eq_true rfl) ?_
  intro z hf p e s m args below meth c ls hx hb hml hown hT hr hlk hB hl
  obtain ⟨hK, hP, hp, hi⟩ := hB
  have hl : lv_has ls 2 [(0, .ref (ad 0)), (1, .int v1)] := hl
  unfold p_LB_trace at hf
  refine lv_iload_n hx hb d_LB_trace_0 rfl (lv_at hl 1 rfl) ?_
  refine lv_if_lt (tgt := 20) hx hb d_LB_trace_1 (by decide) (fun hc => ?_) (fun hc => ?_)
  · have hf := op_t hc hf
    refine lv_iconst (v := (-1)) hx hb d_LB_trace_20 (by decide) ?_
    obtain rfl := op_i1 hf
    exact rt_si hx hb hr hlk rfl d_LB_trace_21
  · have hf := op_f hc hf
    refine lv_iload_n hx hb d_LB_trace_4 rfl (lv_at hl 1 rfl) ?_
    refine lv_aload_n hx hb d_LB_trace_5 rfl (lv_at hl 0 rfl) ?_
    refine cg_0_3 hx hb hT hown hK hP fl_LB_21 d_LB_trace_6 ?_
    refine lv_iconst (v := 0) hx hb d_LB_trace_9 (by decide) ?_
    refine ca_5 hx hb hK hP (j := 0) (by decide) (show ix 0 21 by decide) d_LB_trace_10 ?_
    refine lv_icmp_ge (tgt := 20) hx hb d_LB_trace_11 (by decide) (fun hc => ?_) (fun hc => ?_)
    · have hf := op_t hc hf
      refine lv_iconst (v := (-1)) hx hb d_LB_trace_20 (by decide) ?_
      obtain rfl := op_i1 hf
      exact rt_si hx hb hr hlk rfl d_LB_trace_21
    · have hf := op_f hc hf
      refine lv_iload_n hx hb d_LB_trace_14 rfl (lv_at hl 1 rfl) ?_
      refine lv_bipush (v := 20) hx hb d_LB_trace_15 (by decide) ?_
      refine lv_icmp_lt (tgt := 22) hx hb d_LB_trace_17 (by decide) (fun hc => ?_) (fun hc => ?_)
      · have hf := op_t hc hf
        refine lv_aload_n hx hb d_LB_trace_22 rfl (lv_at hl 0 rfl) ?_
        refine cg_0_3 hx hb hT hown hK hP fl_LB_21 d_LB_trace_23 ?_
        refine lv_iconst (v := 1) hx hb d_LB_trace_26 (by decide) ?_
        refine lv_iload_n hx hb d_LB_trace_27 rfl (lv_at hl 1 rfl) ?_
        refine lv_iadd hx hb d_LB_trace_28 ?_
        obtain ⟨h1, hf⟩ := op_if hf
        refine ca_5 hx hb hK hP rfl h1 d_LB_trace_29 ?_
        obtain rfl := op_i1 hf
        exact rt_si hx hb hr hlk rfl d_LB_trace_30
      · have hf := op_f hc hf
        refine lv_iconst (v := (-1)) hx hb d_LB_trace_20 (by decide) ?_
        obtain rfl := op_i1 hf
        exact rt_si hx hb hr hlk rfl d_LB_trace_21
theorem hd_LB_as : y_LB_as.cls ≠ "java/lang/invoke/MethodHandle" ∧ y_LB_as.cls ≠ "java/lang/invoke/VarHandle" ∧ (parseMethodDescriptor y_LB_as.desc).map (fun d => d.parameters.length) = some 2 := by decide +kernel
theorem d_LB_as_0 : decode b_LB_as 0 = .ok (.aload_n 0, 1) := by decide +kernel
theorem d_LB_as_1 : decode b_LB_as 1 = .ok (.getfield 12, 3) := by decide +kernel
theorem d_LB_as_4 : decode b_LB_as 4 = .ok (.iload_n 1, 1) := by decide +kernel
theorem d_LB_as_5 : decode b_LB_as 5 = .ok (.invokevirtual 81, 3) := by decide +kernel
theorem d_LB_as_8 : decode b_LB_as 8 = .ok (.astore_n 3, 1) := by decide +kernel
theorem d_LB_as_9 : decode b_LB_as 9 = .ok (.aload_n 3, 1) := by decide +kernel
theorem d_LB_as_10 : decode b_LB_as 10 = .ok (.ifnull 13, 3) := by decide +kernel
theorem d_LB_as_13 : decode b_LB_as 13 = .ok (.iload_n 2, 1) := by decide +kernel
theorem d_LB_as_14 : decode b_LB_as 14 = .ok (.ifCond .lt 9, 3) := by decide +kernel
theorem d_LB_as_17 : decode b_LB_as 17 = .ok (.iload_n 2, 1) := by decide +kernel
theorem d_LB_as_18 : decode b_LB_as 18 = .ok (.bipush 6, 2) := by decide +kernel
theorem d_LB_as_20 : decode b_LB_as 20 = .ok (.if_icmp .le 5, 3) := by decide +kernel
theorem d_LB_as_23 : decode b_LB_as 23 = .ok (.iconst (-1), 1) := by decide +kernel
theorem d_LB_as_24 : decode b_LB_as 24 = .ok (.ireturn, 1) := by decide +kernel
theorem d_LB_as_25 : decode b_LB_as 25 = .ok (.aload_n 3, 1) := by decide +kernel
theorem d_LB_as_26 : decode b_LB_as 26 = .ok (.iload_n 2, 1) := by decide +kernel
theorem d_LB_as_27 : decode b_LB_as 27 = .ok (.invokevirtual 230, 3) := by decide +kernel
theorem d_LB_as_30 : decode b_LB_as 30 = .ok (.ifCond .eq 10, 3) := by decide +kernel
theorem d_LB_as_33 : decode b_LB_as 33 = .ok (.aload_n 3, 1) := by decide +kernel
theorem d_LB_as_34 : decode b_LB_as 34 = .ok (.getfield 88, 3) := by decide +kernel
theorem d_LB_as_37 : decode b_LB_as 37 = .ok (.goto 5, 3) := by decide +kernel
theorem d_LB_as_40 : decode b_LB_as 40 = .ok (.bipush (-6), 2) := by decide +kernel
theorem d_LB_as_42 : decode b_LB_as 42 = .ok (.ireturn, 1) := by decide +kernel
def p_LB_as (n : Nat) (E : PE) (F : Nat → Nat → Int32) (G : Nat → Nat → Int32) (P : Nat → Nat → Option Nat) (N : Nat → Nat) (v1 : Int32) (v2 : Int32)  : Option (Int32) := (p_St_walker n E F G P N v1).bind fun x2 => (Option.elim x2 (some (-1)) (fun a3 => (if v2 < 0 then some (-1) else (if v2 ≤ 6 then if eV E a3 = true then (pd_isUnder n (eC E a3) (eD E a3) v2).bind fun x5 => (if x5 = 0 then some (-6) else some (eD E a3 2) : Option (Int32)).bind fun x8 => some x8 else none else some (-1)))))
set_option maxHeartbeats 4000000 in
theorem c_LB_as (l : Launch) (n : Nat) (E : PE) (F : Nat → Nat → Int32) (G : Nat → Nat → Int32) (P : Nat → Nat → Option Nat) (N : Nat → Nat) (dC : Nat → ClassId) (dI : Nat → Nat → Nat) (ad : Nat → Nat) (cI cZ cW cJ : ClassId) (v1 : Int32) (v2 : Int32)   : ROi l y_LB_as b_LB_as 4 (.int) (rL 12) (cB dC dI ad cI cZ cW cJ E F G P N) [.ref (ad 0), .int v1, .int v2] (p_LB_as n E F G P N v1 v2 ) := by
  refine en_roi (by decide) (Nat.le_of_ble_eq_true rfl) ?_
  intro z hf p e s m args below meth c ls hx hb hml hown hT hr hlk hB hl
  obtain ⟨hK, hP, hp, hi⟩ := hB
  have hl : lv_has ls 4 [(0, .ref (ad 0)), (1, .int v1), (2, .int v2)] := hl
  unfold p_LB_as at hf
  refine lv_aload_n hx hb d_LB_as_0 rfl (lv_at hl 0 rfl) ?_
  refine cg_0_0 hx hb hT hown hK hP fl_LB_12 d_LB_as_1 ?_
  refine lv_iload_n hx hb d_LB_as_4 rfl (lv_at hl 1 rfl) ?_
  obtain ⟨x2, hc1, hf⟩ := op_bind hf
  refine kr_q (C := R_St) (b0 := ad 1) (rest := []) hx hb hml hown hT cB_bl (cB_to hK hP hp hi) (va_recv hK hP (ci := 7) (q0 := 1) rfl rfl) (c_St_walker l n E F G P N dC dI ad cI cZ cW cJ v1 _ hc1) (cbW 1 hT cd_St_walker rfl rfl ini_St ml_LB_81 hd_St_walker ⟨Nat.le_of_ble_eq_true rfl, Nat.le_of_ble_eq_true rfl⟩) im_St_walker se_St_St_walker__St_walker rfl hl.1 rfl (Nat.le_of_ble_eq_true rfl) d_LB_as_5 ⟨Nat.zero_le _, Nat.zero_le _⟩ ?_
  cases x2 with
  | none =>
    have hf := op_en hf
    refine lv_astore_nN (lv' := [(3, .null), (0, .ref (ad 0)), (1, .int v1), (2, .int v2)]) hx hb d_LB_as_8 rfl hl (by decide) rfl (fun ls hl => ?_)
    refine lv_aload_nN hx hb d_LB_as_9 rfl (lv_at hl 0 rfl) ?_
    refine lv_ifnullN (tgt := 23) hx hb d_LB_as_10 (by decide) ?_
    refine lv_iconst (v := (-1)) hx hb d_LB_as_23 (by decide) ?_
    obtain rfl := op_i1 hf
    exact rt_si hx hb hr hlk rfl d_LB_as_24
  | some a3 =>
    have hf := op_es hf
    refine lv_astore_n (lv' := [(3, .ref a3), (0, .ref (ad 0)), (1, .int v1), (2, .int v2)]) hx hb d_LB_as_8 rfl hl (by decide) rfl (fun ls hl => ?_)
    refine lv_aload_n hx hb d_LB_as_9 rfl (lv_at hl 0 rfl) ?_
    refine lv_ifnull hx hb d_LB_as_10 ?_
    refine lv_iload_n hx hb d_LB_as_13 rfl (lv_at hl 3 rfl) ?_
    refine lv_if_lt (tgt := 23) hx hb d_LB_as_14 (by decide) (fun hc => ?_) (fun hc => ?_)
    · have hf := op_t hc hf
      refine lv_iconst (v := (-1)) hx hb d_LB_as_23 (by decide) ?_
      obtain rfl := op_i1 hf
      exact rt_si hx hb hr hlk rfl d_LB_as_24
    · have hf := op_f hc hf
      refine lv_iload_n hx hb d_LB_as_17 rfl (lv_at hl 3 rfl) ?_
      refine lv_bipush (v := 6) hx hb d_LB_as_18 (by decide) ?_
      refine lv_icmp_le (tgt := 25) hx hb d_LB_as_20 (by decide) (fun hc => ?_) (fun hc => ?_)
      · have hf := op_t hc hf
        refine lv_aload_n hx hb d_LB_as_25 rfl (lv_at hl 0 rfl) ?_
        refine lv_iload_n hx hb d_LB_as_26 rfl (lv_at hl 3 rfl) ?_
        obtain ⟨h6, hf⟩ := op_if hf
        obtain ⟨x5, hc4, hf⟩ := op_bind hf
        refine kw_isUnder (rest := []) n v2 hx hb hml hown hT hK hi (hp.1 a3 h6).1 (hp.1 a3 h6).2.1 hc4 ml_LB_230 ⟨Nat.le_of_ble_eq_true rfl, Nat.le_of_ble_eq_true rfl⟩ hl.1 (Nat.le_of_ble_eq_true rfl) d_LB_as_27 ⟨Nat.zero_le _, Nat.zero_le _⟩ ?_
        obtain ⟨x8, he, hf⟩ := op_bind hf
        have K7 : ∀ (ls : Array Slot), lv_has ls 4 [] → W p l e (rL 12) s m args below meth c s.heap [] 0 0 (MQ below (fun _ st oc t => oc = .returned (some (.int z)) ∧ t.heap = st.heap) args s 0 0 (fun _ => False)) (F0 m 42 ls [.int x8]) := by
          intro ls hl
          obtain rfl := op_i1 hf
          exact rt_si hx hb hr hlk rfl d_LB_as_42
        have hf := he
        refine lv_if_eq (tgt := 40) hx hb d_LB_as_30 (by decide) (fun hc => ?_) (fun hc => ?_)
        · have hf := op_t hc hf
          refine lv_bipush (v := (-6)) hx hb d_LB_as_40 (by decide) ?_
          obtain rfl := op_i1 hf
          exact K7 ls (lv_sub hl [] rfl)
        · have hf := op_f hc hf
          refine lv_aload_n hx hb d_LB_as_33 rfl (lv_at hl 0 rfl) ?_
          refine wg_2 hx hb hT hown hK (hp.1 a3 h6).1 (hp.1 a3 h6).2.1 fl_LB_88 (fun _ h9 => h9) d_LB_as_34 ?_
          refine lv_goto (tgt := 42) hx hb d_LB_as_37 (by decide) ?_
          obtain rfl := op_i1 hf
          exact K7 ls (lv_sub hl [] rfl)
      · have hf := op_f hc hf
        refine lv_iconst (v := (-1)) hx hb d_LB_as_23 (by decide) ?_
        obtain rfl := op_i1 hf
        exact rt_si hx hb hr hlk rfl d_LB_as_24
theorem hd_LB_count : y_LB_count.cls ≠ "java/lang/invoke/MethodHandle" ∧ y_LB_count.cls ≠ "java/lang/invoke/VarHandle" ∧ (parseMethodDescriptor y_LB_count.desc).map (fun d => d.parameters.length) = some 1 := by decide +kernel
theorem d_LB_count_0 : decode b_LB_count 0 = .ok (.iload_n 1, 1) := by decide +kernel
theorem d_LB_count_1 : decode b_LB_count 1 = .ok (.tableswitch 86 0 5 #[39, 47, 55, 63, 71, 79], 39) := by decide +kernel
theorem d_LB_count_40 : decode b_LB_count 40 = .ok (.aload_n 0, 1) := by decide +kernel
theorem d_LB_count_41 : decode b_LB_count 41 = .ok (.getfield 12, 3) := by decide +kernel
theorem d_LB_count_44 : decode b_LB_count 44 = .ok (.getfield 68, 3) := by decide +kernel
theorem d_LB_count_47 : decode b_LB_count 47 = .ok (.ireturn, 1) := by decide +kernel
theorem d_LB_count_48 : decode b_LB_count 48 = .ok (.aload_n 0, 1) := by decide +kernel
theorem d_LB_count_49 : decode b_LB_count 49 = .ok (.getfield 12, 3) := by decide +kernel
theorem d_LB_count_52 : decode b_LB_count 52 = .ok (.getfield 52, 3) := by decide +kernel
theorem d_LB_count_55 : decode b_LB_count 55 = .ok (.ireturn, 1) := by decide +kernel
theorem d_LB_count_56 : decode b_LB_count 56 = .ok (.aload_n 0, 1) := by decide +kernel
theorem d_LB_count_57 : decode b_LB_count 57 = .ok (.getfield 12, 3) := by decide +kernel
theorem d_LB_count_60 : decode b_LB_count 60 = .ok (.getfield 182, 3) := by decide +kernel
theorem d_LB_count_63 : decode b_LB_count 63 = .ok (.ireturn, 1) := by decide +kernel
theorem d_LB_count_64 : decode b_LB_count 64 = .ok (.aload_n 0, 1) := by decide +kernel
theorem d_LB_count_65 : decode b_LB_count 65 = .ok (.getfield 12, 3) := by decide +kernel
theorem d_LB_count_68 : decode b_LB_count 68 = .ok (.getfield 214, 3) := by decide +kernel
theorem d_LB_count_71 : decode b_LB_count 71 = .ok (.ireturn, 1) := by decide +kernel
theorem d_LB_count_72 : decode b_LB_count 72 = .ok (.aload_n 0, 1) := by decide +kernel
theorem d_LB_count_73 : decode b_LB_count 73 = .ok (.getfield 12, 3) := by decide +kernel
theorem d_LB_count_76 : decode b_LB_count 76 = .ok (.getfield 45, 3) := by decide +kernel
theorem d_LB_count_79 : decode b_LB_count 79 = .ok (.ireturn, 1) := by decide +kernel
theorem d_LB_count_80 : decode b_LB_count 80 = .ok (.aload_n 0, 1) := by decide +kernel
theorem d_LB_count_81 : decode b_LB_count 81 = .ok (.getfield 21, 3) := by decide +kernel
theorem d_LB_count_84 : decode b_LB_count 84 = .ok (.iconst 0, 1) := by decide +kernel
theorem d_LB_count_85 : decode b_LB_count 85 = .ok (.iaload, 1) := by decide +kernel
theorem d_LB_count_86 : decode b_LB_count 86 = .ok (.ireturn, 1) := by decide +kernel
theorem d_LB_count_87 : decode b_LB_count 87 = .ok (.iconst (-1), 1) := by decide +kernel
theorem d_LB_count_88 : decode b_LB_count 88 = .ok (.ireturn, 1) := by decide +kernel
def p_LB_count (n : Nat) (E : PE) (F : Nat → Nat → Int32) (G : Nat → Nat → Int32) (P : Nat → Nat → Option Nat) (N : Nat → Nat) (v1 : Int32)  : Option (Int32) := (if v1 = 0 then some (F 1 5) else if v1 = 1 then some (F 1 3) else if v1 = 2 then some (F 1 12) else if v1 = 3 then some (F 1 14) else if v1 = 4 then some (F 1 1) else if v1 = 5 then some (G 5 0) else some (-1))
set_option maxHeartbeats 4000000 in
theorem c_LB_count (l : Launch) (n : Nat) (E : PE) (F : Nat → Nat → Int32) (G : Nat → Nat → Int32) (P : Nat → Nat → Option Nat) (N : Nat → Nat) (dC : Nat → ClassId) (dI : Nat → Nat → Nat) (ad : Nat → Nat) (cI cZ cW cJ : ClassId) (v1 : Int32)   : ROi l y_LB_count b_LB_count 2 (.int) (rL 5) (cB dC dI ad cI cZ cW cJ E F G P N) [.ref (ad 0), .int v1] (p_LB_count n E F G P N v1 ) := by
  refine en_roi (by decide) (Nat.le_of_ble_eq_true rfl) ?_
  intro z hf p e s m args below meth c ls hx hb hml hown hT hr hlk hB hl
  obtain ⟨hK, hP, hp, hi⟩ := hB
  have hl : lv_has ls 2 [(0, .ref (ad 0)), (1, .int v1)] := hl
  unfold p_LB_count at hf
  refine lv_iload_n hx hb d_LB_count_0 rfl (lv_at hl 1 rfl) ?_
  by_cases hs0 : v1 = 0
  · have hf := op_t hs0 hf
    refine lv_tableIn (tgt := 40) (off := 39) hx hb d_LB_count_1 (by rw [hs0]; decide) (by rw [hs0]; decide) (by rw [hs0]; decide) (by decide) ?_
    refine lv_aload_n hx hb d_LB_count_40 rfl (lv_at hl 0 rfl) ?_
    refine cg_0_0 hx hb hT hown hK hP fl_LB_12 d_LB_count_41 ?_
    refine cg_1_5 hx hb hT hown hK hP fl_LB_68 d_LB_count_44 ?_
    obtain rfl := op_i1 hf
    exact rt_si hx hb hr hlk rfl d_LB_count_47
  · have hf := op_f hs0 hf
    by_cases hs1 : v1 = 1
    · have hf := op_t hs1 hf
      refine lv_tableIn (tgt := 48) (off := 47) hx hb d_LB_count_1 (by rw [hs1]; decide) (by rw [hs1]; decide) (by rw [hs1]; decide) (by decide) ?_
      refine lv_aload_n hx hb d_LB_count_48 rfl (lv_at hl 0 rfl) ?_
      refine cg_0_0 hx hb hT hown hK hP fl_LB_12 d_LB_count_49 ?_
      refine cg_1_3 hx hb hT hown hK hP fl_LB_52 d_LB_count_52 ?_
      obtain rfl := op_i1 hf
      exact rt_si hx hb hr hlk rfl d_LB_count_55
    · have hf := op_f hs1 hf
      by_cases hs2 : v1 = 2
      · have hf := op_t hs2 hf
        refine lv_tableIn (tgt := 56) (off := 55) hx hb d_LB_count_1 (by rw [hs2]; decide) (by rw [hs2]; decide) (by rw [hs2]; decide) (by decide) ?_
        refine lv_aload_n hx hb d_LB_count_56 rfl (lv_at hl 0 rfl) ?_
        refine cg_0_0 hx hb hT hown hK hP fl_LB_12 d_LB_count_57 ?_
        refine cg_1_12 hx hb hT hown hK hP fl_LB_182 d_LB_count_60 ?_
        obtain rfl := op_i1 hf
        exact rt_si hx hb hr hlk rfl d_LB_count_63
      · have hf := op_f hs2 hf
        by_cases hs3 : v1 = 3
        · have hf := op_t hs3 hf
          refine lv_tableIn (tgt := 64) (off := 63) hx hb d_LB_count_1 (by rw [hs3]; decide) (by rw [hs3]; decide) (by rw [hs3]; decide) (by decide) ?_
          refine lv_aload_n hx hb d_LB_count_64 rfl (lv_at hl 0 rfl) ?_
          refine cg_0_0 hx hb hT hown hK hP fl_LB_12 d_LB_count_65 ?_
          refine cg_1_14 hx hb hT hown hK hP fl_LB_214 d_LB_count_68 ?_
          obtain rfl := op_i1 hf
          exact rt_si hx hb hr hlk rfl d_LB_count_71
        · have hf := op_f hs3 hf
          by_cases hs4 : v1 = 4
          · have hf := op_t hs4 hf
            refine lv_tableIn (tgt := 72) (off := 71) hx hb d_LB_count_1 (by rw [hs4]; decide) (by rw [hs4]; decide) (by rw [hs4]; decide) (by decide) ?_
            refine lv_aload_n hx hb d_LB_count_72 rfl (lv_at hl 0 rfl) ?_
            refine cg_0_0 hx hb hT hown hK hP fl_LB_12 d_LB_count_73 ?_
            refine cg_1_1 hx hb hT hown hK hP fl_LB_45 d_LB_count_76 ?_
            obtain rfl := op_i1 hf
            exact rt_si hx hb hr hlk rfl d_LB_count_79
          · have hf := op_f hs4 hf
            by_cases hs5 : v1 = 5
            · have hf := op_t hs5 hf
              refine lv_tableIn (tgt := 80) (off := 79) hx hb d_LB_count_1 (by rw [hs5]; decide) (by rw [hs5]; decide) (by rw [hs5]; decide) (by decide) ?_
              refine lv_aload_n hx hb d_LB_count_80 rfl (lv_at hl 0 rfl) ?_
              refine cg_0_3 hx hb hT hown hK hP fl_LB_21 d_LB_count_81 ?_
              refine lv_iconst (v := 0) hx hb d_LB_count_84 (by decide) ?_
              refine ca_5 hx hb hK hP (j := 0) (by decide) (show ix 0 21 by decide) d_LB_count_85 ?_
              obtain rfl := op_i1 hf
              exact rt_si hx hb hr hlk rfl d_LB_count_86
            · have hf := op_f hs5 hf
              have et0 := tn_ne (v := 0) (by decide) hs0
              have et1 := tn_ne (v := 1) (by decide) hs1
              have et2 := tn_ne (v := 2) (by decide) hs2
              have et3 := tn_ne (v := 3) (by decide) hs3
              have et4 := tn_ne (v := 4) (by decide) hs4
              have et5 := tn_ne (v := 5) (by decide) hs5
              refine lv_tableOut (tgt := 87) hx hb d_LB_count_1 (by omega) (by decide) ?_
              refine lv_iconst (v := (-1)) hx hb d_LB_count_87 (by decide) ?_
              obtain rfl := op_i1 hf
              exact rt_si hx hb hr hlk rfl d_LB_count_88
theorem hd_LB_image : y_LB_image.cls ≠ "java/lang/invoke/MethodHandle" ∧ y_LB_image.cls ≠ "java/lang/invoke/VarHandle" ∧ (parseMethodDescriptor y_LB_image.desc).map (fun d => d.parameters.length) = some 0 := by decide +kernel
theorem d_LB_image_0 : decode b_LB_image 0 = .ok (.aload_n 0, 1) := by decide +kernel
theorem d_LB_image_1 : decode b_LB_image 1 = .ok (.getfield 18, 3) := by decide +kernel
theorem d_LB_image_4 : decode b_LB_image 4 = .ok (.aload_n 0, 1) := by decide +kernel
theorem d_LB_image_5 : decode b_LB_image 5 = .ok (.getfield 12, 3) := by decide +kernel
theorem d_LB_image_8 : decode b_LB_image 8 = .ok (.invokevirtual 233, 3) := by decide +kernel
theorem d_LB_image_11 : decode b_LB_image 11 = .ok (.aload_n 0, 1) := by decide +kernel
theorem d_LB_image_12 : decode b_LB_image 12 = .ok (.iconst 1, 1) := by decide +kernel
theorem d_LB_image_13 : decode b_LB_image 13 = .ok (.putfield 237, 3) := by decide +kernel
theorem d_LB_image_16 : decode b_LB_image 16 = .ok (.aload_n 0, 1) := by decide +kernel
theorem d_LB_image_17 : decode b_LB_image 17 = .ok (.getfield 12, 3) := by decide +kernel
theorem d_LB_image_20 : decode b_LB_image 20 = .ok (.getfield 68, 3) := by decide +kernel
theorem d_LB_image_23 : decode b_LB_image 23 = .ok (.ireturn, 1) := by decide +kernel
def p_LB_image (n : Nat) (E : PE)  (F : Nat → Nat → Int32) (G : Nat → Nat → Int32) (P : Nat → Nat → Option Nat) (N : Nat → Nat) : Option (Int32 × CU) := (p_St_copyFrom_k n E F G P N).bind fun (F3, G4, P5, N6) => some (((upR F3 0 2 1) 1 5), (upR F3 0 2 1), G4, P5, N6)
set_option maxHeartbeats 4000000 in
theorem c_LB_image (l : Launch) (n : Nat) (E : PE)  (F : Nat → Nat → Int32) (G : Nat → Nat → Int32) (P : Nat → Nat → Option Nat) (N : Nat → Nat)  : CMi l y_LB_image b_LB_image 1 .int (rL 6) E (fun ad => [.ref (ad 0)]) F G P N (p_LB_image n E F G P N) := by
  refine en_ci (by decide) (fun _ => Nat.le_of_ble_eq_true rfl) ?_
  intro z hf p e s m args below meth c dC dI ad cI cZ cW cJ A adK adV ls C hA h hr hlk hl
  have hl : lv_has ls 1 [(0, .ref (ad 0))] := hl
  unfold p_LB_image at hf
  obtain ⟨hx, hb, hml, hown, hT, hK, hTS, hTR, hpS, hi⟩ := id C
  refine lv_aload_n hx hb d_LB_image_0 rfl (lv_at hl 0 rfl) ?_
  refine cg_0_1 hx hb hT hown hK h.1 fl_LB_18 d_LB_image_1 ?_
  refine lv_aload_n hx hb d_LB_image_4 rfl (lv_at hl 0 rfl) ?_
  refine cg_0_0 hx hb hT hown hK h.1 fl_LB_12 d_LB_image_5 ?_
  obtain ⟨⟨F3, G4, P5, N6⟩, hc1, hf⟩ := op_bind hf
  try dsimp only at hf
  refine kx_v (C0 := R_St) (b0 := ad 2) (rest := []) C h hA rfl (va_recv hK h.1 (ci := 7) (q0 := 2) rfl rfl) (c_St_copyFrom_k l n E  F G P N) hc1 (cbW 1 hT cd_St_copyFrom rfl rfl ini_St ml_LB_233 hd_St_copyFrom ⟨Nat.le_of_ble_eq_true rfl, Nat.le_of_ble_eq_true rfl⟩) im_St_copyFrom se_St_St_copyFrom__St_copyFrom rfl hl.1 rfl (Nat.le_of_ble_eq_true rfl) d_LB_image_8 ⟨Nat.zero_le _, Nat.zero_le _⟩ (fun H locs h => ?_)
  refine lv_aload_n hx hb d_LB_image_11 rfl (lv_at hl 0 rfl) ?_
  refine lv_iconst (v := 1) hx hb d_LB_image_12 (by decide) ?_
  refine cp_0_2 hx hb hT hown hK h (by decide) fl_LB_237 d_LB_image_13 (fun H locs h => ?_)
  refine lv_aload_n hx hb d_LB_image_16 rfl (lv_at hl 0 rfl) ?_
  refine cg_0_0 hx hb hT hown hK h.1 fl_LB_12 d_LB_image_17 ?_
  refine cg_1_5 hx hb hT hown hK h.1 fl_LB_68 d_LB_image_20 ?_
  exact rt_ci C h hr hlk hf rfl d_LB_image_23
theorem hd_LB_undo : y_LB_undo.cls ≠ "java/lang/invoke/MethodHandle" ∧ y_LB_undo.cls ≠ "java/lang/invoke/VarHandle" ∧ (parseMethodDescriptor y_LB_undo.desc).map (fun d => d.parameters.length) = some 0 := by decide +kernel
theorem d_LB_undo_0 : decode b_LB_undo 0 = .ok (.aload_n 0, 1) := by decide +kernel
theorem d_LB_undo_1 : decode b_LB_undo 1 = .ok (.getfield 237, 3) := by decide +kernel
theorem d_LB_undo_4 : decode b_LB_undo 4 = .ok (.ifCond .ne 6, 3) := by decide +kernel
theorem d_LB_undo_7 : decode b_LB_undo 7 = .ok (.bipush (-3), 2) := by decide +kernel
theorem d_LB_undo_9 : decode b_LB_undo 9 = .ok (.ireturn, 1) := by decide +kernel
theorem d_LB_undo_10 : decode b_LB_undo 10 = .ok (.aload_n 0, 1) := by decide +kernel
theorem d_LB_undo_11 : decode b_LB_undo 11 = .ok (.getfield 12, 3) := by decide +kernel
theorem d_LB_undo_14 : decode b_LB_undo 14 = .ok (.aload_n 0, 1) := by decide +kernel
theorem d_LB_undo_15 : decode b_LB_undo 15 = .ok (.getfield 18, 3) := by decide +kernel
theorem d_LB_undo_18 : decode b_LB_undo 18 = .ok (.invokevirtual 233, 3) := by decide +kernel
theorem d_LB_undo_21 : decode b_LB_undo 21 = .ok (.aload_n 0, 1) := by decide +kernel
theorem d_LB_undo_22 : decode b_LB_undo 22 = .ok (.iconst 1, 1) := by decide +kernel
theorem d_LB_undo_23 : decode b_LB_undo 23 = .ok (.putfield 41, 3) := by decide +kernel
theorem d_LB_undo_26 : decode b_LB_undo 26 = .ok (.aload_n 0, 1) := by decide +kernel
theorem d_LB_undo_27 : decode b_LB_undo 27 = .ok (.getfield 12, 3) := by decide +kernel
theorem d_LB_undo_30 : decode b_LB_undo 30 = .ok (.getfield 68, 3) := by decide +kernel
theorem d_LB_undo_33 : decode b_LB_undo 33 = .ok (.ireturn, 1) := by decide +kernel
def p_LB_undo (n : Nat) (E : PE)  (F : Nat → Nat → Int32) (G : Nat → Nat → Int32) (P : Nat → Nat → Option Nat) (N : Nat → Nat) : Option (Int32 × CU) := (if (F 0 2) = 0 then some ((-3), F, G, P, N) else (p_St_copyFrom_ad2 n E F G P N).bind fun (F3, G4, P5, N6) => some (((upR F3 0 6 1) 1 5), (upR F3 0 6 1), G4, P5, N6))
set_option maxHeartbeats 4000000 in
theorem c_LB_undo (l : Launch) (n : Nat) (E : PE)  (F : Nat → Nat → Int32) (G : Nat → Nat → Int32) (P : Nat → Nat → Option Nat) (N : Nat → Nat)  : CMi l y_LB_undo b_LB_undo 1 .int (rL 6) E (fun ad => [.ref (ad 0)]) F G P N (p_LB_undo n E F G P N) := by
  refine en_ci (by decide) (fun _ => Nat.le_of_ble_eq_true rfl) ?_
  intro z hf p e s m args below meth c dC dI ad cI cZ cW cJ A adK adV ls C hA h hr hlk hl
  have hl : lv_has ls 1 [(0, .ref (ad 0))] := hl
  unfold p_LB_undo at hf
  obtain ⟨hx, hb, hml, hown, hT, hK, hTS, hTR, hpS, hi⟩ := id C
  refine lv_aload_n hx hb d_LB_undo_0 rfl (lv_at hl 0 rfl) ?_
  refine cg_0_2 hx hb hT hown hK h.1 fl_LB_237 d_LB_undo_1 ?_
  refine lv_if_ne (tgt := 10) hx hb d_LB_undo_4 (by decide) (fun hc => ?_) (fun hc => ?_)
  · have hf := op_f hc hf
    refine lv_aload_n hx hb d_LB_undo_10 rfl (lv_at hl 0 rfl) ?_
    refine cg_0_0 hx hb hT hown hK h.1 fl_LB_12 d_LB_undo_11 ?_
    refine lv_aload_n hx hb d_LB_undo_14 rfl (lv_at hl 0 rfl) ?_
    refine cg_0_1 hx hb hT hown hK h.1 fl_LB_18 d_LB_undo_15 ?_
    obtain ⟨⟨F3, G4, P5, N6⟩, hc1, hf⟩ := op_bind hf
    try dsimp only at hf
    refine kx_v (C0 := R_St) (b0 := ad 1) (rest := []) C h hA rfl (va_recv hK h.1 (ci := 7) (q0 := 1) rfl rfl) (c_St_copyFrom_ad2 l n E  F G P N) hc1 (cbW 1 hT cd_St_copyFrom rfl rfl ini_St ml_LB_233 hd_St_copyFrom ⟨Nat.le_of_ble_eq_true rfl, Nat.le_of_ble_eq_true rfl⟩) im_St_copyFrom se_St_St_copyFrom__St_copyFrom rfl hl.1 rfl (Nat.le_of_ble_eq_true rfl) d_LB_undo_18 ⟨Nat.zero_le _, Nat.zero_le _⟩ (fun H locs h => ?_)
    refine lv_aload_n hx hb d_LB_undo_21 rfl (lv_at hl 0 rfl) ?_
    refine lv_iconst (v := 1) hx hb d_LB_undo_22 (by decide) ?_
    refine cp_0_6 hx hb hT hown hK h (by decide) fl_LB_41 d_LB_undo_23 (fun H locs h => ?_)
    refine lv_aload_n hx hb d_LB_undo_26 rfl (lv_at hl 0 rfl) ?_
    refine cg_0_0 hx hb hT hown hK h.1 fl_LB_12 d_LB_undo_27 ?_
    refine cg_1_5 hx hb hT hown hK h.1 fl_LB_68 d_LB_undo_30 ?_
    exact rt_ci C h hr hlk hf rfl d_LB_undo_33
  · have hf := op_t hc hf
    refine lv_bipush (v := (-3)) hx hb d_LB_undo_7 (by decide) ?_
    exact rt_ci C h hr hlk hf rfl d_LB_undo_9
