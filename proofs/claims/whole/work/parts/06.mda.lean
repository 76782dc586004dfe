theorem hd_Md_in : y_Md_in.cls ≠ "java/lang/invoke/MethodHandle" ∧ y_Md_in.cls ≠ "java/lang/invoke/VarHandle" ∧ (parseMethodDescriptor y_Md_in.desc).map (fun d => d.parameters.length) = some 3 := by decide +kernel
theorem d_Md_in_0 : decode b_Md_in 0 = .ok (.iload_n 0, 1) := by decide +kernel
theorem d_Md_in_1 : decode b_Md_in 1 = .ok (.iload_n 1, 1) := by decide +kernel
theorem d_Md_in_2 : decode b_Md_in 2 = .ok (.if_icmp .lt 12, 3) := by decide +kernel
theorem d_Md_in_5 : decode b_Md_in 5 = .ok (.iload_n 0, 1) := by decide +kernel
theorem d_Md_in_6 : decode b_Md_in 6 = .ok (.iload_n 2, 1) := by decide +kernel
theorem d_Md_in_7 : decode b_Md_in 7 = .ok (.if_icmp .gt 7, 3) := by decide +kernel
theorem d_Md_in_10 : decode b_Md_in 10 = .ok (.iconst 1, 1) := by decide +kernel
theorem d_Md_in_11 : decode b_Md_in 11 = .ok (.goto 4, 3) := by decide +kernel
theorem d_Md_in_14 : decode b_Md_in 14 = .ok (.iconst 0, 1) := by decide +kernel
theorem d_Md_in_15 : decode b_Md_in 15 = .ok (.ireturn, 1) := by decide +kernel
def p_Md_in (n : Nat) (v0 : Int32) (v1 : Int32) (v2 : Int32)  : Option (Int32) := (if v0 < v1 then some 0 else (if v2 < v0 then some 0 else some 1) : Option (Int32)).bind fun x2 => if isZ x2 then some x2 else none
set_option maxHeartbeats 4000000 in
theorem c_Md_in (l : Launch) (n : Nat) (v0 : Int32) (v1 : Int32) (v2 : Int32)   : MSi l y_Md_in b_Md_in 3 .boolean (rL 5) [.int v0, .int v1, .int v2] (p_Md_in n v0 v1 v2 ) := by
  refine en_si (by decide) (Nat.le_of_ble_eq_true rfl) ?_
  intro z hf p e s m args below meth c ls hx hb hml hown hT hr hlk hl
  have hl : lv_has ls 3 [(0, .int v0), (1, .int v1), (2, .int v2)] := hl
  unfold p_Md_in at hf
  refine lv_iload_n hx hb d_Md_in_0 rfl (lv_at hl 0 rfl) ?_
  refine lv_iload_n hx hb d_Md_in_1 rfl (lv_at hl 1 rfl) ?_
  obtain ⟨x2, he, hf⟩ := op_bind hf
  have K1 : ∀ (ls : Array Slot), lv_has ls 3 [] → W p l e (rL 5) s m args below meth c s.heap [] 0 0 (MQ below (fun _ st oc t => oc = .returned (some (.int z)) ∧ t.heap = st.heap) args s 0 0 (fun _ => False)) (F0 m 15 ls [.int x2]) := by
    intro ls hl
    obtain ⟨h3, hf⟩ := op_if hf
    obtain rfl := op_i1 hf
    exact rt_si hx hb hr hlk (isZ_nar h3) d_Md_in_15
  have hf := he
  refine lv_icmp_lt (tgt := 14) hx hb d_Md_in_2 (by decide) (fun hc => ?_) (fun hc => ?_)
  · have hf := op_t hc hf
    refine lv_iconst (v := 0) hx hb d_Md_in_14 (by decide) ?_
    obtain rfl := op_i1 hf
    exact K1 ls (lv_sub hl [] rfl)
  · have hf := op_f hc hf
    refine lv_iload_n hx hb d_Md_in_5 rfl (lv_at hl 0 rfl) ?_
    refine lv_iload_n hx hb d_Md_in_6 rfl (lv_at hl 2 rfl) ?_
    refine lv_icmp_gt (tgt := 14) hx hb d_Md_in_7 (by decide) (fun hc => ?_) (fun hc => ?_)
    · have hf := op_t hc hf
      refine lv_iconst (v := 0) hx hb d_Md_in_14 (by decide) ?_
      obtain rfl := op_i1 hf
      exact K1 ls (lv_sub hl [] rfl)
    · have hf := op_f hc hf
      refine lv_iconst (v := 1) hx hb d_Md_in_10 (by decide) ?_
      refine lv_goto (tgt := 15) hx hb d_Md_in_11 (by decide) ?_
      obtain rfl := op_i1 hf
      exact K1 ls (lv_sub hl [] rfl)
theorem hd_Md_count1 : y_Md_count1.cls ≠ "java/lang/invoke/MethodHandle" ∧ y_Md_count1.cls ≠ "java/lang/invoke/VarHandle" ∧ (parseMethodDescriptor y_Md_count1.desc).map (fun d => d.parameters.length) = some 1 := by decide +kernel
theorem d_Md_count1_0 : decode b_Md_count1 0 = .ok (.iconst 0, 1) := by decide +kernel
theorem d_Md_count1_1 : decode b_Md_count1 1 = .ok (.istore_n 1, 1) := by decide +kernel
theorem d_Md_count1_2 : decode b_Md_count1 2 = .ok (.iconst 0, 1) := by decide +kernel
theorem d_Md_count1_3 : decode b_Md_count1 3 = .ok (.istore_n 2, 1) := by decide +kernel
theorem d_Md_count1_4 : decode b_Md_count1 4 = .ok (.iload_n 2, 1) := by decide +kernel
theorem d_Md_count1_5 : decode b_Md_count1 5 = .ok (.bipush 6, 2) := by decide +kernel
theorem d_Md_count1_7 : decode b_Md_count1 7 = .ok (.if_icmp .ge 17, 3) := by decide +kernel
theorem d_Md_count1_10 : decode b_Md_count1 10 = .ok (.iload_n 1, 1) := by decide +kernel
theorem d_Md_count1_11 : decode b_Md_count1 11 = .ok (.iload_n 0, 1) := by decide +kernel
theorem d_Md_count1_12 : decode b_Md_count1 12 = .ok (.iload_n 2, 1) := by decide +kernel
theorem d_Md_count1_13 : decode b_Md_count1 13 = .ok (.ishr, 1) := by decide +kernel
theorem d_Md_count1_14 : decode b_Md_count1 14 = .ok (.iconst 1, 1) := by decide +kernel
theorem d_Md_count1_15 : decode b_Md_count1 15 = .ok (.iand, 1) := by decide +kernel
theorem d_Md_count1_16 : decode b_Md_count1 16 = .ok (.iadd, 1) := by decide +kernel
theorem d_Md_count1_17 : decode b_Md_count1 17 = .ok (.istore_n 1, 1) := by decide +kernel
theorem d_Md_count1_18 : decode b_Md_count1 18 = .ok (.iinc 2 1, 3) := by decide +kernel
theorem d_Md_count1_21 : decode b_Md_count1 21 = .ok (.goto (-17), 3) := by decide +kernel
theorem d_Md_count1_24 : decode b_Md_count1 24 = .ok (.iload_n 1, 1) := by decide +kernel
theorem d_Md_count1_25 : decode b_Md_count1 25 = .ok (.ireturn, 1) := by decide +kernel
def l_Md_count1_4 (n : Nat)  (v0 : Int32)  : Nat → Int32 → Int32 → Option (Int32)
  | 0, _, _ => none
  | k + 1, v1, v2 => (if 6 ≤ v2 then some v1 else l_Md_count1_4 n v0 k (v1 + ((v0 >>> (v2 &&& 31)) &&& 1)) (v2 + 1))
set_option maxHeartbeats 4000000 in
theorem wl_Md_count1_4 {Q : State → Prop}  {p : Program} {l : Launch} {e : Env} {s : State} {m : MethodId} {args : Array Value} {below : List Frame} {meth : Method} {c : Code} (hx : p.tables.exec = Jvm.exec) (hb : c.code = b_Md_count1) (hml : c.maxLocals = 3) (hown : s.vm.findClass "LanternBridgeModel" = some m.cls) (hT : ∀ w ∈ WT, w.before args s = true) (hr : meth.sig.returnType = some .int) (hlk : meth.locks = false) (n : Nat)  (v0 : Int32)  : ∀ (k : Nat) (v1 : Int32) (v2 : Int32) (r0 : Int32), l_Md_count1_4 n v0 k v1 v2 = some r0 → (∀ (ls : Array Slot), lv_has ls 3 [(1, .int r0)] → W p l e (rL 5) s m args below meth c s.heap [] 0 0 Q (F0 m 24 ls [])) → ∀ (ls : Array Slot), lv_has ls 3 [(0, .int v0), (1, .int v1), (2, .int v2)] → W p l e (rL 5) s m args below meth c s.heap [] 0 0 Q (F0 m 4 ls []) := by
  intro k
  induction k with
  | zero => intro v1 v2 r0 hf; exact absurd hf (by unfold l_Md_count1_4; exact fun h9 => by cases h9)
  | succ k ih =>
    intro v1 v2 r0 hf K ls hl
    unfold l_Md_count1_4 at hf
    refine lv_iload_n hx hb d_Md_count1_4 rfl (lv_at hl 2 rfl) ?_
    refine lv_bipush (v := 6) hx hb d_Md_count1_5 (by decide) ?_
    refine lv_icmp_ge (tgt := 24) hx hb d_Md_count1_7 (by decide) (fun hc => ?_) (fun hc => ?_)
    · have hf := op_t hc hf
      obtain rfl := op_i1 hf
      exact K ls (lv_sub hl [1] rfl)
    · have hf := op_f hc hf
      refine lv_iload_n hx hb d_Md_count1_10 rfl (lv_at hl 1 rfl) ?_
      refine lv_iload_n hx hb d_Md_count1_11 rfl (lv_at hl 0 rfl) ?_
      refine lv_iload_n hx hb d_Md_count1_12 rfl (lv_at hl 2 rfl) ?_
      refine lv_ishr hx hb d_Md_count1_13 ?_
      refine lv_iconst (v := 1) hx hb d_Md_count1_14 (by decide) ?_
      refine lv_iand hx hb d_Md_count1_15 ?_
      refine lv_iadd hx hb d_Md_count1_16 ?_
      refine lv_istore_n (lv' := [(1, .int (v1 + ((v0 >>> (v2 &&& 31)) &&& 1))), (0, .int v0), (2, .int v2)]) hx hb d_Md_count1_17 rfl hl (by decide) rfl (fun ls hl => ?_)
      refine lv_iinc (v := (v2 + 1)) (lv' := [(2, .int (v2 + 1)), (1, .int (v1 + ((v0 >>> (v2 &&& 31)) &&& 1))), (0, .int v0)]) hx hb d_Md_count1_18 hl (k := 2) rfl rfl (by decide) rfl (fun ls hl => ?_)
      refine lv_goto (tgt := 4) hx hb d_Md_count1_21 (by decide) ?_
      exact ih (v1 + ((v0 >>> (v2 &&& 31)) &&& 1)) (v2 + 1) _ hf K ls (lv_sub hl [2, 1, 0] rfl)
def p_Md_count1 (n : Nat) (v0 : Int32)  : Option (Int32) := (l_Md_count1_4 n v0 n 0 0).bind fun y1 => some y1
set_option maxHeartbeats 4000000 in
theorem c_Md_count1 (l : Launch) (n : Nat) (v0 : Int32)   : MSi l y_Md_count1 b_Md_count1 3 .int (rL 5) [.int v0] (p_Md_count1 n v0 ) := by
  refine en_si (by decide) (Nat.le_of_ble_eq_true rfl) ?_
  intro z hf p e s m args below meth c ls hx hb hml hown hT hr hlk hl
  have hl : lv_has ls 3 [(0, .int v0)] := hl
  unfold p_Md_count1 at hf
  refine lv_iconst (v := 0) hx hb d_Md_count1_0 (by decide) ?_
  refine lv_istore_n (lv' := [(1, .int 0), (0, .int v0)]) hx hb d_Md_count1_1 rfl hl (by decide) rfl (fun ls hl => ?_)
  refine lv_iconst (v := 0) hx hb d_Md_count1_2 (by decide) ?_
  refine lv_istore_n (lv' := [(2, .int 0), (1, .int 0), (0, .int v0)]) hx hb d_Md_count1_3 rfl hl (by decide) rfl (fun ls hl => ?_)
  obtain ⟨y1, he, hf⟩ := op_bind hf
  refine wl_Md_count1_4 hx hb hml hown hT hr hlk n v0 n 0 0 _ he (fun ls hl => ?_) ls (lv_sub hl [2, 1, 0] rfl)
  refine lv_iload_n hx hb d_Md_count1_24 rfl (lv_at hl 0 rfl) ?_
  obtain rfl := op_i1 hf
  exact rt_si hx hb hr hlk rfl d_Md_count1_25
theorem hd_Md_all : y_Md_all.cls ≠ "java/lang/invoke/MethodHandle" ∧ y_Md_all.cls ≠ "java/lang/invoke/VarHandle" ∧ (parseMethodDescriptor y_Md_all.desc).map (fun d => d.parameters.length) = some 0 := by decide +kernel
theorem d_Md_all_0 : decode b_Md_all 0 = .ok (.iconst 1, 1) := by decide +kernel
theorem d_Md_all_1 : decode b_Md_all 1 = .ok (.aload_n 0, 1) := by decide +kernel
theorem d_Md_all_2 : decode b_Md_all 2 = .ok (.getfield 9, 3) := by decide +kernel
theorem d_Md_all_5 : decode b_Md_all 5 = .ok (.iconst 0, 1) := by decide +kernel
theorem d_Md_all_6 : decode b_Md_all 6 = .ok (.iaload, 1) := by decide +kernel
theorem d_Md_all_7 : decode b_Md_all 7 = .ok (.ishl, 1) := by decide +kernel
theorem d_Md_all_8 : decode b_Md_all 8 = .ok (.iconst 1, 1) := by decide +kernel
theorem d_Md_all_9 : decode b_Md_all 9 = .ok (.isub, 1) := by decide +kernel
theorem d_Md_all_10 : decode b_Md_all 10 = .ok (.ireturn, 1) := by decide +kernel
def p_Md_all (n : Nat)  (I : Nat → Int32) (R : Nat → Nat → Int32) : Option (Int32) := some ((1 <<< ((R 1 0) &&& 31)) - 1)
set_option maxHeartbeats 4000000 in
theorem c_Md_all (l : Launch) (n : Nat)  (I : Nat → Int32) (R : Nat → Nat → Int32)  : MMi l y_Md_all b_Md_all 1 .int (rL 5) (fun ad adK => []) I R ((p_Md_all n I R).map fun r => (r, I, R)) := by
  refine en_mi (by decide) rfl (fun _ _ => Nat.le_of_ble_eq_true rfl) ?_
  intro z hz p e s m args below meth c dC dI ad cI cZ A adK adV ls C hA h hr hlk hl
  have hl : lv_has ls 1 [(0, .ref (ad 0))] := hl
  obtain ⟨z, hf, rfl⟩ := op_map hz
  unfold p_Md_all at hf
  obtain ⟨hx, hb, hml, hown, hT, -⟩ := id C
  refine lv_iconst (v := 1) hx hb d_Md_all_0 (by decide) ?_
  refine lv_aload_n hx hb d_Md_all_1 rfl (lv_at hl 0 rfl) ?_
  refine mg_1 C h d_Md_all_2 ?_
  refine lv_iconst (v := 0) hx hb d_Md_all_5 (by decide) ?_
  refine ma_1 C h (j := 0) (by decide) (show ix 0 890 by decide) d_Md_all_6 ?_
  refine lv_ishl hx hb d_Md_all_7 ?_
  refine lv_iconst (v := 1) hx hb d_Md_all_8 (by decide) ?_
  refine lv_isub hx hb d_Md_all_9 ?_
  exact rt_mr C h hr hlk hf rfl d_Md_all_10
theorem hd_Md_isPerson : y_Md_isPerson.cls ≠ "java/lang/invoke/MethodHandle" ∧ y_Md_isPerson.cls ≠ "java/lang/invoke/VarHandle" ∧ (parseMethodDescriptor y_Md_isPerson.desc).map (fun d => d.parameters.length) = some 1 := by decide +kernel
theorem d_Md_isPerson_0 : decode b_Md_isPerson 0 = .ok (.iload_n 1, 1) := by decide +kernel
theorem d_Md_isPerson_1 : decode b_Md_isPerson 1 = .ok (.iconst 0, 1) := by decide +kernel
theorem d_Md_isPerson_2 : decode b_Md_isPerson 2 = .ok (.aload_n 0, 1) := by decide +kernel
theorem d_Md_isPerson_3 : decode b_Md_isPerson 3 = .ok (.getfield 9, 3) := by decide +kernel
theorem d_Md_isPerson_6 : decode b_Md_isPerson 6 = .ok (.iconst 0, 1) := by decide +kernel
theorem d_Md_isPerson_7 : decode b_Md_isPerson 7 = .ok (.iaload, 1) := by decide +kernel
theorem d_Md_isPerson_8 : decode b_Md_isPerson 8 = .ok (.iconst 1, 1) := by decide +kernel
theorem d_Md_isPerson_9 : decode b_Md_isPerson 9 = .ok (.isub, 1) := by decide +kernel
theorem d_Md_isPerson_10 : decode b_Md_isPerson 10 = .ok (.invokestatic 44, 3) := by decide +kernel
theorem d_Md_isPerson_13 : decode b_Md_isPerson 13 = .ok (.ireturn, 1) := by decide +kernel
def p_Md_isPerson (n : Nat) (v1 : Int32) (I : Nat → Int32) (R : Nat → Nat → Int32) : Option (Int32) := (p_Md_in n v1 0 ((R 1 0) - 1)).bind fun x2 => if isZ x2 then some x2 else none
set_option maxHeartbeats 4000000 in
theorem c_Md_isPerson (l : Launch) (n : Nat) (v1 : Int32) (I : Nat → Int32) (R : Nat → Nat → Int32)  : MMi l y_Md_isPerson b_Md_isPerson 2 .boolean (rL 6) (fun ad adK => [.int v1]) I R ((p_Md_isPerson n v1 I R).map fun r => (r, I, R)) := by
  refine en_mi (by decide) rfl (fun _ _ => Nat.le_of_ble_eq_true rfl) ?_
  intro z hz p e s m args below meth c dC dI ad cI cZ A adK adV ls C hA h hr hlk hl
  have hl : lv_has ls 2 [(0, .ref (ad 0)), (1, .int v1)] := hl
  obtain ⟨z, hf, rfl⟩ := op_map hz
  unfold p_Md_isPerson at hf
  obtain ⟨hx, hb, hml, hown, hT, -⟩ := id C
  refine lv_iload_n hx hb d_Md_isPerson_0 rfl (lv_at hl 1 rfl) ?_
  refine lv_iconst (v := 0) hx hb d_Md_isPerson_1 (by decide) ?_
  refine lv_aload_n hx hb d_Md_isPerson_2 rfl (lv_at hl 0 rfl) ?_
  refine mg_1 C h d_Md_isPerson_3 ?_
  refine lv_iconst (v := 0) hx hb d_Md_isPerson_6 (by decide) ?_
  refine ma_1 C h (j := 0) (by decide) (show ix 0 890 by decide) d_Md_isPerson_7 ?_
  refine lv_iconst (v := 1) hx hb d_Md_isPerson_8 (by decide) ?_
  refine lv_isub hx hb d_Md_isPerson_9 ?_
  obtain ⟨x2, hc1, hf⟩ := op_bind hf
  refine ks_i (rest := []) hx hb hml hown hT (c_Md_in l n v1 0 ((R 1 0) - 1) _ hc1) (cbW 3 hT cd_Md_in rfl rfl ini_Md ml_Md_44 hd_Md_in ⟨Nat.le_of_ble_eq_true rfl, Nat.le_of_ble_eq_true rfl⟩) sm_Md_in rfl hl.1 rfl (Nat.le_of_ble_eq_true rfl) d_Md_isPerson_10 ⟨Nat.zero_le _, Nat.zero_le _⟩ ?_
  obtain ⟨h3, hf⟩ := op_if hf
  exact rt_mr C h hr hlk hf (isZ_nar h3) d_Md_isPerson_13
theorem hd_Md_isSet : y_Md_isSet.cls ≠ "java/lang/invoke/MethodHandle" ∧ y_Md_isSet.cls ≠ "java/lang/invoke/VarHandle" ∧ (parseMethodDescriptor y_Md_isSet.desc).map (fun d => d.parameters.length) = some 1 := by decide +kernel
theorem d_Md_isSet_0 : decode b_Md_isSet 0 = .ok (.iload_n 1, 1) := by decide +kernel
theorem d_Md_isSet_1 : decode b_Md_isSet 1 = .ok (.iconst 0, 1) := by decide +kernel
theorem d_Md_isSet_2 : decode b_Md_isSet 2 = .ok (.aload_n 0, 1) := by decide +kernel
theorem d_Md_isSet_3 : decode b_Md_isSet 3 = .ok (.invokevirtual 48, 3) := by decide +kernel
theorem d_Md_isSet_6 : decode b_Md_isSet 6 = .ok (.invokestatic 44, 3) := by decide +kernel
theorem d_Md_isSet_9 : decode b_Md_isSet 9 = .ok (.ireturn, 1) := by decide +kernel
def p_Md_isSet (n : Nat) (v1 : Int32) (I : Nat → Int32) (R : Nat → Nat → Int32) : Option (Int32) := (p_Md_all n I R).bind fun x2 => (p_Md_in n v1 0 x2).bind fun x4 => if isZ x4 then some x4 else none
set_option maxHeartbeats 4000000 in
theorem c_Md_isSet (l : Launch) (n : Nat) (v1 : Int32) (I : Nat → Int32) (R : Nat → Nat → Int32)  : MMi l y_Md_isSet b_Md_isSet 2 .boolean (rL 6) (fun ad adK => [.int v1]) I R ((p_Md_isSet n v1 I R).map fun r => (r, I, R)) := by
  refine en_mi (by decide) rfl (fun _ _ => Nat.le_of_ble_eq_true rfl) ?_
  intro z hz p e s m args below meth c dC dI ad cI cZ A adK adV ls C hA h hr hlk hl
  have hl : lv_has ls 2 [(0, .ref (ad 0)), (1, .int v1)] := hl
  obtain ⟨z, hf, rfl⟩ := op_map hz
  unfold p_Md_isSet at hf
  obtain ⟨hx, hb, hml, hown, hT, -⟩ := id C
  refine lv_iload_n hx hb d_Md_isSet_0 rfl (lv_at hl 1 rfl) ?_
  refine lv_iconst (v := 0) hx hb d_Md_isSet_1 (by decide) ?_
  refine lv_aload_n hx hb d_Md_isSet_2 rfl (lv_at hl 0 rfl) ?_
  obtain ⟨x2, hc1, hf⟩ := op_bind hf
  refine kc_r (rest := [.int 0, .int v1]) C h hA (c_Md_all l n I R) hc1 (cbW 0 hT cd_Md_all rfl rfl ini_Md ml_Md_48 hd_Md_all ⟨Nat.le_of_ble_eq_true rfl, Nat.le_of_ble_eq_true rfl⟩) im_Md_all sp_Md_all rfl hl.1 rfl (Nat.le_of_ble_eq_true rfl) d_Md_isSet_3 ⟨Nat.zero_le _, Nat.zero_le _⟩ (fun H locs h => ?_)
  obtain ⟨x4, hc3, hf⟩ := op_bind hf
  refine ks_i (rest := []) hx hb hml hown hT (c_Md_in l n v1 0 x2 _ hc3) (cbW 3 hT cd_Md_in rfl rfl ini_Md ml_Md_44 hd_Md_in ⟨Nat.le_of_ble_eq_true rfl, Nat.le_of_ble_eq_true rfl⟩) sm_Md_in rfl hl.1 rfl (Nat.le_of_ble_eq_true rfl) d_Md_isSet_6 ⟨Nat.zero_le _, Nat.zero_le _⟩ ?_
  obtain ⟨h5, hf⟩ := op_if hf
  exact rt_mr C h hr hlk hf (isZ_nar h5) d_Md_isSet_9
theorem hd_Md_feed : y_Md_feed.cls ≠ "java/lang/invoke/MethodHandle" ∧ y_Md_feed.cls ≠ "java/lang/invoke/VarHandle" ∧ (parseMethodDescriptor y_Md_feed.desc).map (fun d => d.parameters.length) = some 1 := by decide +kernel
theorem d_Md_feed_0 : decode b_Md_feed 0 = .ok (.iload_n 1, 1) := by decide +kernel
theorem d_Md_feed_1 : decode b_Md_feed 1 = .ok (.iconst 0, 1) := by decide +kernel
theorem d_Md_feed_2 : decode b_Md_feed 2 = .ok (.bipush 127, 2) := by decide +kernel
theorem d_Md_feed_4 : decode b_Md_feed 4 = .ok (.invokestatic 44, 3) := by decide +kernel
theorem d_Md_feed_7 : decode b_Md_feed 7 = .ok (.ifCond .ne 6, 3) := by decide +kernel
theorem d_Md_feed_10 : decode b_Md_feed 10 = .ok (.bipush (-2), 2) := by decide +kernel
theorem d_Md_feed_12 : decode b_Md_feed 12 = .ok (.ireturn, 1) := by decide +kernel
theorem d_Md_feed_13 : decode b_Md_feed 13 = .ok (.aload_n 0, 1) := by decide +kernel
theorem d_Md_feed_14 : decode b_Md_feed 14 = .ok (.getfield 9, 3) := by decide +kernel
theorem d_Md_feed_17 : decode b_Md_feed 17 = .ok (.iconst 4, 1) := by decide +kernel
theorem d_Md_feed_18 : decode b_Md_feed 18 = .ok (.iaload, 1) := by decide +kernel
theorem d_Md_feed_19 : decode b_Md_feed 19 = .ok (.bipush 100, 2) := by decide +kernel
theorem d_Md_feed_21 : decode b_Md_feed 21 = .ok (.if_icmp .ne 6, 3) := by decide +kernel
theorem d_Md_feed_24 : decode b_Md_feed 24 = .ok (.bipush (-4), 2) := by decide +kernel
theorem d_Md_feed_26 : decode b_Md_feed 26 = .ok (.ireturn, 1) := by decide +kernel
theorem d_Md_feed_27 : decode b_Md_feed 27 = .ok (.aload_n 0, 1) := by decide +kernel
theorem d_Md_feed_28 : decode b_Md_feed 28 = .ok (.getfield 9, 3) := by decide +kernel
theorem d_Md_feed_31 : decode b_Md_feed 31 = .ok (.bipush 70, 2) := by decide +kernel
theorem d_Md_feed_33 : decode b_Md_feed 33 = .ok (.aload_n 0, 1) := by decide +kernel
theorem d_Md_feed_34 : decode b_Md_feed 34 = .ok (.getfield 9, 3) := by decide +kernel
theorem d_Md_feed_37 : decode b_Md_feed 37 = .ok (.iconst 4, 1) := by decide +kernel
theorem d_Md_feed_38 : decode b_Md_feed 38 = .ok (.iaload, 1) := by decide +kernel
theorem d_Md_feed_39 : decode b_Md_feed 39 = .ok (.iadd, 1) := by decide +kernel
theorem d_Md_feed_40 : decode b_Md_feed 40 = .ok (.iload_n 1, 1) := by decide +kernel
theorem d_Md_feed_41 : decode b_Md_feed 41 = .ok (.iastore, 1) := by decide +kernel
theorem d_Md_feed_42 : decode b_Md_feed 42 = .ok (.aload_n 0, 1) := by decide +kernel
theorem d_Md_feed_43 : decode b_Md_feed 43 = .ok (.getfield 9, 3) := by decide +kernel
theorem d_Md_feed_46 : decode b_Md_feed 46 = .ok (.iconst 4, 1) := by decide +kernel
theorem d_Md_feed_47 : decode b_Md_feed 47 = .ok (.dup2, 1) := by decide +kernel
theorem d_Md_feed_48 : decode b_Md_feed 48 = .ok (.iaload, 1) := by decide +kernel
theorem d_Md_feed_49 : decode b_Md_feed 49 = .ok (.iconst 1, 1) := by decide +kernel
theorem d_Md_feed_50 : decode b_Md_feed 50 = .ok (.iadd, 1) := by decide +kernel
theorem d_Md_feed_51 : decode b_Md_feed 51 = .ok (.iastore, 1) := by decide +kernel
theorem d_Md_feed_52 : decode b_Md_feed 52 = .ok (.aload_n 0, 1) := by decide +kernel
theorem d_Md_feed_53 : decode b_Md_feed 53 = .ok (.getfield 9, 3) := by decide +kernel
theorem d_Md_feed_56 : decode b_Md_feed 56 = .ok (.iconst 4, 1) := by decide +kernel
theorem d_Md_feed_57 : decode b_Md_feed 57 = .ok (.iaload, 1) := by decide +kernel
theorem d_Md_feed_58 : decode b_Md_feed 58 = .ok (.ireturn, 1) := by decide +kernel
def p_Md_feed (n : Nat) (v1 : Int32) (I : Nat → Int32) (R : Nat → Nat → Int32) : Option (Int32 × MU) := (p_Md_in n v1 0 127).bind fun x2 => (if x2 = 0 then some ((-2), I, R) else (if (R 1 4) = 100 then some ((-4), I, R) else if ix (70 + (R 1 4)) 890 then some ((((upR (upR R 1 (70 + (R 1 4)).toNatClampNeg v1) 1 4 (((upR R 1 (70 + (R 1 4)).toNatClampNeg v1) 1 4) + 1))) 1 4), I, (upR (upR R 1 (70 + (R 1 4)).toNatClampNeg v1) 1 4 (((upR R 1 (70 + (R 1 4)).toNatClampNeg v1) 1 4) + 1))) else none))
set_option maxHeartbeats 4000000 in
theorem c_Md_feed (l : Launch) (n : Nat) (v1 : Int32) (I : Nat → Int32) (R : Nat → Nat → Int32)  : MMi l y_Md_feed b_Md_feed 2 .int (rL 6) (fun ad adK => [.int v1]) I R (p_Md_feed n v1 I R) := by
  refine en_mi (by decide) rfl (fun _ _ => Nat.le_of_ble_eq_true rfl) ?_
  intro z hf p e s m args below meth c dC dI ad cI cZ A adK adV ls C hA h hr hlk hl
  have hl : lv_has ls 2 [(0, .ref (ad 0)), (1, .int v1)] := hl
  unfold p_Md_feed at hf
  obtain ⟨hx, hb, hml, hown, hT, -⟩ := id C
  refine lv_iload_n hx hb d_Md_feed_0 rfl (lv_at hl 1 rfl) ?_
  refine lv_iconst (v := 0) hx hb d_Md_feed_1 (by decide) ?_
  refine lv_bipush (v := 127) hx hb d_Md_feed_2 (by decide) ?_
  obtain ⟨x2, hc1, hf⟩ := op_bind hf
  refine ks_i (rest := []) hx hb hml hown hT (c_Md_in l n v1 0 127 _ hc1) (cbW 3 hT cd_Md_in rfl rfl ini_Md ml_Md_44 hd_Md_in ⟨Nat.le_of_ble_eq_true rfl, Nat.le_of_ble_eq_true rfl⟩) sm_Md_in rfl hl.1 rfl (Nat.le_of_ble_eq_true rfl) d_Md_feed_4 ⟨Nat.zero_le _, Nat.zero_le _⟩ ?_
  refine lv_if_ne (tgt := 13) hx hb d_Md_feed_7 (by decide) (fun hc => ?_) (fun hc => ?_)
  · have hf := op_f hc hf
    refine lv_aload_n hx hb d_Md_feed_13 rfl (lv_at hl 0 rfl) ?_
    refine mg_1 C h d_Md_feed_14 ?_
    refine lv_iconst (v := 4) hx hb d_Md_feed_17 (by decide) ?_
    refine ma_1 C h (j := 4) (by decide) (show ix 4 890 by decide) d_Md_feed_18 ?_
    refine lv_bipush (v := 100) hx hb d_Md_feed_19 (by decide) ?_
    refine lv_icmp_ne (tgt := 27) hx hb d_Md_feed_21 (by decide) (fun hc => ?_) (fun hc => ?_)
    · have hf := op_f hc hf
      refine lv_aload_n hx hb d_Md_feed_27 rfl (lv_at hl 0 rfl) ?_
      refine mg_1 C h d_Md_feed_28 ?_
      refine lv_bipush (v := 70) hx hb d_Md_feed_31 (by decide) ?_
      refine lv_aload_n hx hb d_Md_feed_33 rfl (lv_at hl 0 rfl) ?_
      refine mg_1 C h d_Md_feed_34 ?_
      refine lv_iconst (v := 4) hx hb d_Md_feed_37 (by decide) ?_
      refine ma_1 C h (j := 4) (by decide) (show ix 4 890 by decide) d_Md_feed_38 ?_
      refine lv_iadd hx hb d_Md_feed_39 ?_
      refine lv_iload_n hx hb d_Md_feed_40 rfl (lv_at hl 1 rfl) ?_
      obtain ⟨h3, hf⟩ := op_if hf
      refine ms_1 C h rfl h3 d_Md_feed_41 (fun H locs h => ?_)
      refine lv_aload_n hx hb d_Md_feed_42 rfl (lv_at hl 0 rfl) ?_
      refine mg_1 C h d_Md_feed_43 ?_
      refine lv_iconst (v := 4) hx hb d_Md_feed_46 (by decide) ?_
      refine lv_dup2_11 hx hb d_Md_feed_47 rfl rfl ?_
      refine ma_1 C h (j := 4) (by decide) (show ix 4 890 by decide) d_Md_feed_48 ?_
      refine lv_iconst (v := 1) hx hb d_Md_feed_49 (by decide) ?_
      refine lv_iadd hx hb d_Md_feed_50 ?_
      refine ms_1 C h (j := 4) (by decide) (show ix 4 890 by decide) d_Md_feed_51 (fun H locs h => ?_)
      refine lv_aload_n hx hb d_Md_feed_52 rfl (lv_at hl 0 rfl) ?_
      refine mg_1 C h d_Md_feed_53 ?_
      refine lv_iconst (v := 4) hx hb d_Md_feed_56 (by decide) ?_
      refine ma_1 C h (j := 4) (by decide) (show ix 4 890 by decide) d_Md_feed_57 ?_
      exact rt_mi C h hr hlk hf rfl d_Md_feed_58
    · have hf := op_t hc hf
      refine lv_bipush (v := (-4)) hx hb d_Md_feed_24 (by decide) ?_
      exact rt_mi C h hr hlk hf rfl d_Md_feed_26
  · have hf := op_t hc hf
    refine lv_bipush (v := (-2)) hx hb d_Md_feed_10 (by decide) ?_
    exact rt_mi C h hr hlk hf rfl d_Md_feed_12
theorem hd_Md_here : y_Md_here.cls ≠ "java/lang/invoke/MethodHandle" ∧ y_Md_here.cls ≠ "java/lang/invoke/VarHandle" ∧ (parseMethodDescriptor y_Md_here.desc).map (fun d => d.parameters.length) = some 0 := by decide +kernel
theorem d_Md_here_0 : decode b_Md_here 0 = .ok (.aload_n 0, 1) := by decide +kernel
theorem d_Md_here_1 : decode b_Md_here 1 = .ok (.getfield 52, 3) := by decide +kernel
theorem d_Md_here_4 : decode b_Md_here 4 = .ok (.aload_n 0, 1) := by decide +kernel
theorem d_Md_here_5 : decode b_Md_here 5 = .ok (.getfield 55, 3) := by decide +kernel
theorem d_Md_here_8 : decode b_Md_here 8 = .ok (.if_icmp .ge 18, 3) := by decide +kernel
theorem d_Md_here_11 : decode b_Md_here 11 = .ok (.aload_n 0, 1) := by decide +kernel
theorem d_Md_here_12 : decode b_Md_here 12 = .ok (.getfield 9, 3) := by decide +kernel
theorem d_Md_here_15 : decode b_Md_here 15 = .ok (.bipush 70, 2) := by decide +kernel
theorem d_Md_here_17 : decode b_Md_here 17 = .ok (.aload_n 0, 1) := by decide +kernel
theorem d_Md_here_18 : decode b_Md_here 18 = .ok (.getfield 52, 3) := by decide +kernel
theorem d_Md_here_21 : decode b_Md_here 21 = .ok (.iadd, 1) := by decide +kernel
theorem d_Md_here_22 : decode b_Md_here 22 = .ok (.iaload, 1) := by decide +kernel
theorem d_Md_here_23 : decode b_Md_here 23 = .ok (.goto 4, 3) := by decide +kernel
theorem d_Md_here_26 : decode b_Md_here 26 = .ok (.iconst (-1), 1) := by decide +kernel
theorem d_Md_here_27 : decode b_Md_here 27 = .ok (.ireturn, 1) := by decide +kernel
def p_Md_here (n : Nat)  (I : Nat → Int32) (R : Nat → Nat → Int32) : Option (Int32) := (if (I 6) ≤ (I 5) then some (-1) else if ix (70 + (I 5)) 890 then some (R 1 (70 + (I 5)).toNatClampNeg) else none : Option (Int32)).bind fun x2 => some x2
set_option maxHeartbeats 4000000 in
theorem c_Md_here (l : Launch) (n : Nat)  (I : Nat → Int32) (R : Nat → Nat → Int32)  : MMi l y_Md_here b_Md_here 1 .int (rL 5) (fun ad adK => []) I R ((p_Md_here n I R).map fun r => (r, I, R)) := by
  refine en_mi (by decide) rfl (fun _ _ => Nat.le_of_ble_eq_true rfl) ?_
  intro z hz p e s m args below meth c dC dI ad cI cZ A adK adV ls C hA h hr hlk hl
  have hl : lv_has ls 1 [(0, .ref (ad 0))] := hl
  obtain ⟨z, hf, rfl⟩ := op_map hz
  unfold p_Md_here at hf
  obtain ⟨hx, hb, hml, hown, hT, -⟩ := id C
  refine lv_aload_n hx hb d_Md_here_0 rfl (lv_at hl 0 rfl) ?_
  refine mg_5 C h d_Md_here_1 ?_
  refine lv_aload_n hx hb d_Md_here_4 rfl (lv_at hl 0 rfl) ?_
  refine mg_6 C h d_Md_here_5 ?_
  obtain ⟨x2, he, hf⟩ := op_bind hf
  have K1 : ∀ (ls : Array Slot), lv_has ls 1 [] → ∀ (H : Heap) (locs : List Loc), mH A s.heap dC dI ad cI cZ I R H locs → W p l e (rL 5) s m args below meth c H locs 0 0 (mQi dC dI ad cI cZ A below args s (z, I, R)) (F0 m 27 ls [.int x2]) := by
    intro ls hl H locs h
    exact rt_mr C h hr hlk hf rfl d_Md_here_27
  have hf := he
  refine lv_icmp_ge (tgt := 26) hx hb d_Md_here_8 (by decide) (fun hc => ?_) (fun hc => ?_)
  · have hf := op_t hc hf
    refine lv_iconst (v := (-1)) hx hb d_Md_here_26 (by decide) ?_
    obtain rfl := op_i1 hf
    exact K1 ls (lv_sub hl [] rfl) s.heap [] h
  · have hf := op_f hc hf
    refine lv_aload_n hx hb d_Md_here_11 rfl (lv_at hl 0 rfl) ?_
    refine mg_1 C h d_Md_here_12 ?_
    refine lv_bipush (v := 70) hx hb d_Md_here_15 (by decide) ?_
    refine lv_aload_n hx hb d_Md_here_17 rfl (lv_at hl 0 rfl) ?_
    refine mg_5 C h d_Md_here_18 ?_
    refine lv_iadd hx hb d_Md_here_21 ?_
    obtain ⟨h3, hf⟩ := op_if hf
    refine ma_1 C h rfl h3 d_Md_here_22 ?_
    refine lv_goto (tgt := 27) hx hb d_Md_here_23 (by decide) ?_
    obtain rfl := op_i1 hf
    exact K1 ls (lv_sub hl [] rfl) s.heap [] h
theorem hd_Md_must : y_Md_must.cls ≠ "java/lang/invoke/MethodHandle" ∧ y_Md_must.cls ≠ "java/lang/invoke/VarHandle" ∧ (parseMethodDescriptor y_Md_must.desc).map (fun d => d.parameters.length) = some 1 := by decide +kernel
theorem d_Md_must_0 : decode b_Md_must 0 = .ok (.aload_n 0, 1) := by decide +kernel
theorem d_Md_must_1 : decode b_Md_must 1 = .ok (.aload_n 0, 1) := by decide +kernel
theorem d_Md_must_2 : decode b_Md_must 2 = .ok (.getfield 58, 3) := by decide +kernel
theorem d_Md_must_5 : decode b_Md_must 5 = .ok (.ifCond .ne 11, 3) := by decide +kernel
theorem d_Md_must_8 : decode b_Md_must 8 = .ok (.aload_n 0, 1) := by decide +kernel
theorem d_Md_must_9 : decode b_Md_must 9 = .ok (.invokevirtual 62, 3) := by decide +kernel
theorem d_Md_must_12 : decode b_Md_must 12 = .ok (.iload_n 1, 1) := by decide +kernel
theorem d_Md_must_13 : decode b_Md_must 13 = .ok (.if_icmp .eq 7, 3) := by decide +kernel
theorem d_Md_must_16 : decode b_Md_must 16 = .ok (.iconst 1, 1) := by decide +kernel
theorem d_Md_must_17 : decode b_Md_must 17 = .ok (.goto 4, 3) := by decide +kernel
theorem d_Md_must_20 : decode b_Md_must 20 = .ok (.iconst 0, 1) := by decide +kernel
theorem d_Md_must_21 : decode b_Md_must 21 = .ok (.putfield 58, 3) := by decide +kernel
theorem d_Md_must_24 : decode b_Md_must 24 = .ok (.aload_n 0, 1) := by decide +kernel
theorem d_Md_must_25 : decode b_Md_must 25 = .ok (.dup, 1) := by decide +kernel
theorem d_Md_must_26 : decode b_Md_must 26 = .ok (.getfield 52, 3) := by decide +kernel
theorem d_Md_must_29 : decode b_Md_must 29 = .ok (.aload_n 0, 1) := by decide +kernel
theorem d_Md_must_30 : decode b_Md_must 30 = .ok (.getfield 58, 3) := by decide +kernel
theorem d_Md_must_33 : decode b_Md_must 33 = .ok (.ifCond .eq 7, 3) := by decide +kernel
theorem d_Md_must_36 : decode b_Md_must 36 = .ok (.iconst 0, 1) := by decide +kernel
theorem d_Md_must_37 : decode b_Md_must 37 = .ok (.goto 4, 3) := by decide +kernel
theorem d_Md_must_40 : decode b_Md_must 40 = .ok (.iconst 1, 1) := by decide +kernel
theorem d_Md_must_41 : decode b_Md_must 41 = .ok (.iadd, 1) := by decide +kernel
theorem d_Md_must_42 : decode b_Md_must 42 = .ok (.putfield 52, 3) := by decide +kernel
theorem d_Md_must_45 : decode b_Md_must 45 = .ok (.return_, 1) := by decide +kernel
def p_Md_must (n : Nat) (v1 : Int32) (I : Nat → Int32) (R : Nat → Nat → Int32) : Option (MU) := (if (I 7) = 0 then (p_Md_here n I R).bind fun x4 => (if x4 = v1 then some 0 else some 1) else some 1 : Option (Int32)).bind fun x2 => if isZ x2 then (if ((upd I 7 x2) 7) = 0 then some 1 else some 0 : Option (Int32)).bind fun x7 => some ((upd (upd I 7 x2) 5 (((upd I 7 x2) 5) + x7)), R) else none
set_option maxHeartbeats 4000000 in
theorem c_Md_must (l : Launch) (n : Nat) (v1 : Int32) (I : Nat → Int32) (R : Nat → Nat → Int32)  : MMv l y_Md_must b_Md_must 2 (rL 6) (fun ad adK => [.int v1]) I R (p_Md_must n v1 I R) := by
  refine en_mv (by decide) rfl (fun _ _ => Nat.le_of_ble_eq_true rfl) ?_
  intro z hf p e s m args below meth c dC dI ad cI cZ A adK adV ls C hA h hr hlk hl
  have hl : lv_has ls 2 [(0, .ref (ad 0)), (1, .int v1)] := hl
  unfold p_Md_must at hf
  obtain ⟨hx, hb, hml, hown, hT, -⟩ := id C
  refine lv_aload_n hx hb d_Md_must_0 rfl (lv_at hl 0 rfl) ?_
  refine lv_aload_n hx hb d_Md_must_1 rfl (lv_at hl 0 rfl) ?_
  refine mg_7 C h d_Md_must_2 ?_
  obtain ⟨x2, he, hf⟩ := op_bind hf
  have K1 : ∀ (ls : Array Slot), lv_has ls 2 [(0, .ref (ad 0))] → ∀ (H : Heap) (locs : List Loc), mH A s.heap dC dI ad cI cZ I R H locs → W p l e (rL 6) s m args below meth c H locs 0 0 (mQv dC dI ad cI cZ A below args s z) (F0 m 21 ls [.int x2, .ref (ad 0)]) := by
    intro ls hl H locs h
    obtain ⟨h5, hf⟩ := op_if hf
    refine mp_7 C h h5 d_Md_must_21 (fun H locs h => ?_)
    refine lv_aload_n hx hb d_Md_must_24 rfl (lv_at hl 0 rfl) ?_
    refine lv_dup hx hb d_Md_must_25 rfl ?_
    refine mg_5 C h d_Md_must_26 ?_
    refine lv_aload_n hx hb d_Md_must_29 rfl (lv_at hl 0 rfl) ?_
    refine mg_7 C h d_Md_must_30 ?_
    obtain ⟨x7, he, hf⟩ := op_bind hf
    have K6 : ∀ (ls : Array Slot), lv_has ls 2 [] → ∀ (H : Heap) (locs : List Loc), mH A s.heap dC dI ad cI cZ (upd I 7 x2) R H locs → W p l e (rL 6) s m args below meth c H locs 0 0 (mQv dC dI ad cI cZ A below args s z) (F0 m 41 ls [.int x7, .int ((upd I 7 x2) 5), .ref (ad 0)]) := by
      intro ls hl H locs h
      refine lv_iadd hx hb d_Md_must_41 ?_
      refine mp_5 C h d_Md_must_42 (fun H locs h => ?_)
      exact rt_mv C h hr hlk hf d_Md_must_45
    have hf := he
    refine lv_if_eq (tgt := 40) hx hb d_Md_must_33 (by decide) (fun hc => ?_) (fun hc => ?_)
    · have hf := op_t hc hf
      refine lv_iconst (v := 1) hx hb d_Md_must_40 (by decide) ?_
      obtain rfl := op_i1 hf
      exact K6 ls (lv_sub hl [] rfl) H locs h
    · have hf := op_f hc hf
      refine lv_iconst (v := 0) hx hb d_Md_must_36 (by decide) ?_
      refine lv_goto (tgt := 41) hx hb d_Md_must_37 (by decide) ?_
      obtain rfl := op_i1 hf
      exact K6 ls (lv_sub hl [] rfl) H locs h
  have hf := he
  refine lv_if_ne (tgt := 16) hx hb d_Md_must_5 (by decide) (fun hc => ?_) (fun hc => ?_)
  · have hf := op_f hc hf
    refine lv_iconst (v := 1) hx hb d_Md_must_16 (by decide) ?_
    refine lv_goto (tgt := 21) hx hb d_Md_must_17 (by decide) ?_
    obtain rfl := op_i1 hf
    exact K1 ls (lv_sub hl [0] rfl) s.heap [] h
  · have hf := op_t hc hf
    refine lv_aload_n hx hb d_Md_must_8 rfl (lv_at hl 0 rfl) ?_
    obtain ⟨x4, hc3, hf⟩ := op_bind hf
    refine kc_r (rest := [.ref (ad 0)]) C h hA (c_Md_here l n I R) hc3 (cbW 0 hT cd_Md_here rfl rfl ini_Md ml_Md_62 hd_Md_here ⟨Nat.le_of_ble_eq_true rfl, Nat.le_of_ble_eq_true rfl⟩) im_Md_here sp_Md_here rfl hl.1 rfl (Nat.le_of_ble_eq_true rfl) d_Md_must_9 ⟨Nat.zero_le _, Nat.zero_le _⟩ (fun H locs h => ?_)
    refine lv_iload_n hx hb d_Md_must_12 rfl (lv_at hl 1 rfl) ?_
    refine lv_icmp_eq (tgt := 20) hx hb d_Md_must_13 (by decide) (fun hc => ?_) (fun hc => ?_)
    · have hf := op_t hc hf
      refine lv_iconst (v := 0) hx hb d_Md_must_20 (by decide) ?_
      obtain rfl := op_i1 hf
      exact K1 ls (lv_sub hl [0] rfl) H locs h
    · have hf := op_f hc hf
      refine lv_iconst (v := 1) hx hb d_Md_must_16 (by decide) ?_
      refine lv_goto (tgt := 21) hx hb d_Md_must_17 (by decide) ?_
      obtain rfl := op_i1 hf
      exact K1 ls (lv_sub hl [0] rfl) H locs h
