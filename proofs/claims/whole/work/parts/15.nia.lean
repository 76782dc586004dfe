theorem hd_Ni_signAt : y_Ni_signAt.cls ≠ "java/lang/invoke/MethodHandle" ∧ y_Ni_signAt.cls ≠ "java/lang/invoke/VarHandle" ∧ (parseMethodDescriptor y_Ni_signAt.desc).map (fun d => d.parameters.length) = some 1 := by decide +kernel
theorem d_Ni_signAt_0 : decode b_Ni_signAt 0 = .ok (.iload_n 1, 1) := by decide +kernel
theorem d_Ni_signAt_1 : decode b_Ni_signAt 1 = .ok (.ifCond .lt 12, 3) := by decide +kernel
theorem d_Ni_signAt_4 : decode b_Ni_signAt 4 = .ok (.iload_n 1, 1) := by decide +kernel
theorem d_Ni_signAt_5 : decode b_Ni_signAt 5 = .ok (.aload_n 0, 1) := by decide +kernel
theorem d_Ni_signAt_6 : decode b_Ni_signAt 6 = .ok (.getfield 38, 3) := by decide +kernel
theorem d_Ni_signAt_9 : decode b_Ni_signAt 9 = .ok (.arraylength, 1) := by decide +kernel
theorem d_Ni_signAt_10 : decode b_Ni_signAt 10 = .ok (.if_icmp .lt 7, 3) := by decide +kernel
theorem d_Ni_signAt_13 : decode b_Ni_signAt 13 = .ok (.iconst (-1), 1) := by decide +kernel
theorem d_Ni_signAt_14 : decode b_Ni_signAt 14 = .ok (.goto 9, 3) := by decide +kernel
theorem d_Ni_signAt_17 : decode b_Ni_signAt 17 = .ok (.aload_n 0, 1) := by decide +kernel
theorem d_Ni_signAt_18 : decode b_Ni_signAt 18 = .ok (.getfield 38, 3) := by decide +kernel
theorem d_Ni_signAt_21 : decode b_Ni_signAt 21 = .ok (.iload_n 1, 1) := by decide +kernel
theorem d_Ni_signAt_22 : decode b_Ni_signAt 22 = .ok (.iaload, 1) := by decide +kernel
theorem d_Ni_signAt_23 : decode b_Ni_signAt 23 = .ok (.ireturn, 1) := by decide +kernel
def p_Ni_signAt (n : Nat) (tl : Nat) (v1 : Int32) (I : Nat → Int32) (R : Nat → Nat → Int32) : Option (Int32) := (if v1 < 0 then some (-1) else (if v1 < (nI tl) then if ix v1 tl then some (R 3 v1.toNatClampNeg) else none else some (-1)) : Option (Int32)).bind fun x2 => some x2
set_option maxHeartbeats 4000000 in
theorem c_Ni_signAt (l : Launch) (n : Nat) (tl : Nat) (v1 : Int32) (I : Nat → Int32) (R : Nat → Nat → Int32)  : NMi l y_Ni_signAt b_Ni_signAt 2 .int (rL 5) tl (fun ad adK => [.int v1]) I R ((p_Ni_signAt n tl v1 I R).map fun r => (r, I, R)) := by
  refine en_ni (by decide) rfl (fun _ _ => Nat.le_of_ble_eq_true rfl) ?_
  intro z hz p e s m args below meth c dC dI ad cI A adK adV ls C hA h hr hlk hl
  have hl : lv_has ls 2 [(0, .ref (ad 0)), (1, .int v1)] := hl
  obtain ⟨z, hf, rfl⟩ := op_map hz
  unfold p_Ni_signAt at hf
  obtain ⟨hx, hb, hml, hown, hT, -⟩ := id C
  refine lv_iload_n hx hb d_Ni_signAt_0 rfl (lv_at hl 1 rfl) ?_
  obtain ⟨x2, he, hf⟩ := op_bind hf
  have K1 : ∀ (ls : Array Slot), lv_has ls 2 [] → ∀ (H : Heap) (locs : List Loc), nH A s.heap dC dI ad cI tl I R H locs → W p l e (rL 5) s m args below meth c H locs 0 0 (nQi dC dI ad cI tl A below args s (z, I, R)) (F0 m 23 ls [.int x2]) := by
    intro ls hl H locs h
    exact rt_nr C h hr hlk hf rfl d_Ni_signAt_23
  have hf := he
  refine lv_if_lt (tgt := 13) hx hb d_Ni_signAt_1 (by decide) (fun hc => ?_) (fun hc => ?_)
  · have hf := op_t hc hf
    refine lv_iconst (v := (-1)) hx hb d_Ni_signAt_13 (by decide) ?_
    refine lv_goto (tgt := 23) hx hb d_Ni_signAt_14 (by decide) ?_
    obtain rfl := op_i1 hf
    exact K1 ls (lv_sub hl [] rfl) s.heap [] h
  · have hf := op_f hc hf
    refine lv_iload_n hx hb d_Ni_signAt_4 rfl (lv_at hl 1 rfl) ?_
    refine lv_aload_n hx hb d_Ni_signAt_5 rfl (lv_at hl 0 rfl) ?_
    refine ng_3 C h d_Ni_signAt_6 ?_
    refine nl_3 C h d_Ni_signAt_9 ?_
    refine lv_icmp_lt (tgt := 17) hx hb d_Ni_signAt_10 (by decide) (fun hc => ?_) (fun hc => ?_)
    · have hf := op_t hc hf
      refine lv_aload_n hx hb d_Ni_signAt_17 rfl (lv_at hl 0 rfl) ?_
      refine ng_3 C h d_Ni_signAt_18 ?_
      refine lv_iload_n hx hb d_Ni_signAt_21 rfl (lv_at hl 1 rfl) ?_
      obtain ⟨h3, hf⟩ := op_if hf
      refine na_3 C h rfl h3 d_Ni_signAt_22 ?_
      obtain rfl := op_i1 hf
      exact K1 ls (lv_sub hl [] rfl) s.heap [] h
    · have hf := op_f hc hf
      refine lv_iconst (v := (-1)) hx hb d_Ni_signAt_13 (by decide) ?_
      refine lv_goto (tgt := 23) hx hb d_Ni_signAt_14 (by decide) ?_
      obtain rfl := op_i1 hf
      exact K1 ls (lv_sub hl [] rfl) s.heap [] h
theorem hd_Ni_take : y_Ni_take.cls ≠ "java/lang/invoke/MethodHandle" ∧ y_Ni_take.cls ≠ "java/lang/invoke/VarHandle" ∧ (parseMethodDescriptor y_Ni_take.desc).map (fun d => d.parameters.length) = some 1 := by decide +kernel
theorem d_Ni_take_0 : decode b_Ni_take 0 = .ok (.aload_n 0, 1) := by decide +kernel
theorem d_Ni_take_1 : decode b_Ni_take 1 = .ok (.aload_n 0, 1) := by decide +kernel
theorem d_Ni_take_2 : decode b_Ni_take 2 = .ok (.getfield 54, 3) := by decide +kernel
theorem d_Ni_take_5 : decode b_Ni_take 5 = .ok (.invokevirtual 78, 3) := by decide +kernel
theorem d_Ni_take_8 : decode b_Ni_take 8 = .ok (.iload_n 1, 1) := by decide +kernel
theorem d_Ni_take_9 : decode b_Ni_take 9 = .ok (.if_icmp .eq 5, 3) := by decide +kernel
theorem d_Ni_take_12 : decode b_Ni_take 12 = .ok (.iconst 0, 1) := by decide +kernel
theorem d_Ni_take_13 : decode b_Ni_take 13 = .ok (.ireturn, 1) := by decide +kernel
theorem d_Ni_take_14 : decode b_Ni_take 14 = .ok (.aload_n 0, 1) := by decide +kernel
theorem d_Ni_take_15 : decode b_Ni_take 15 = .ok (.dup, 1) := by decide +kernel
theorem d_Ni_take_16 : decode b_Ni_take 16 = .ok (.getfield 54, 3) := by decide +kernel
theorem d_Ni_take_19 : decode b_Ni_take 19 = .ok (.iconst 1, 1) := by decide +kernel
theorem d_Ni_take_20 : decode b_Ni_take 20 = .ok (.iadd, 1) := by decide +kernel
theorem d_Ni_take_21 : decode b_Ni_take 21 = .ok (.putfield 54, 3) := by decide +kernel
theorem d_Ni_take_24 : decode b_Ni_take 24 = .ok (.iconst 1, 1) := by decide +kernel
theorem d_Ni_take_25 : decode b_Ni_take 25 = .ok (.ireturn, 1) := by decide +kernel
def p_Ni_take (n : Nat) (tl : Nat) (v1 : Int32) (I : Nat → Int32) (R : Nat → Nat → Int32) : Option (Int32 × MU) := (p_Ni_signAt n tl (I 4) I R).bind fun x2 => (if x2 = v1 then some (1, (upd I 4 ((I 4) + 1)), R) else some (0, I, R))
set_option maxHeartbeats 4000000 in
theorem c_Ni_take (l : Launch) (n : Nat) (tl : Nat) (v1 : Int32) (I : Nat → Int32) (R : Nat → Nat → Int32)  : NMi l y_Ni_take b_Ni_take 2 .boolean (rL 6) tl (fun ad adK => [.int v1]) I R (p_Ni_take n tl v1 I R) := by
  refine en_ni (by decide) rfl (fun _ _ => Nat.le_of_ble_eq_true rfl) ?_
  intro z hf p e s m args below meth c dC dI ad cI A adK adV ls C hA h hr hlk hl
  have hl : lv_has ls 2 [(0, .ref (ad 0)), (1, .int v1)] := hl
  unfold p_Ni_take at hf
  obtain ⟨hx, hb, hml, hown, hT, -⟩ := id C
  refine lv_aload_n hx hb d_Ni_take_0 rfl (lv_at hl 0 rfl) ?_
  refine lv_aload_n hx hb d_Ni_take_1 rfl (lv_at hl 0 rfl) ?_
  refine ng_4 C h d_Ni_take_2 ?_
  obtain ⟨x2, hc1, hf⟩ := op_bind hf
  refine kn_r (rest := []) C h hA (c_Ni_signAt l n tl (I 4) I R) hc1 (cbW 1 hT cd_Ni_signAt rfl rfl ini_Ni ml_Ni_78 hd_Ni_signAt ⟨Nat.le_of_ble_eq_true rfl, Nat.le_of_ble_eq_true rfl⟩) im_Ni_signAt sp_Ni_signAt rfl hl.1 rfl (Nat.le_of_ble_eq_true rfl) d_Ni_take_5 ⟨Nat.zero_le _, Nat.zero_le _⟩ (fun H locs h => ?_)
  refine lv_iload_n hx hb d_Ni_take_8 rfl (lv_at hl 1 rfl) ?_
  refine lv_icmp_eq (tgt := 14) hx hb d_Ni_take_9 (by decide) (fun hc => ?_) (fun hc => ?_)
  · have hf := op_t hc hf
    refine lv_aload_n hx hb d_Ni_take_14 rfl (lv_at hl 0 rfl) ?_
    refine lv_dup hx hb d_Ni_take_15 rfl ?_
    refine ng_4 C h d_Ni_take_16 ?_
    refine lv_iconst (v := 1) hx hb d_Ni_take_19 (by decide) ?_
    refine lv_iadd hx hb d_Ni_take_20 ?_
    refine np_4 C h d_Ni_take_21 (fun H locs h => ?_)
    refine lv_iconst (v := 1) hx hb d_Ni_take_24 (by decide) ?_
    exact rt_ni C h hr hlk hf (by decide) d_Ni_take_25
  · have hf := op_f hc hf
    refine lv_iconst (v := 0) hx hb d_Ni_take_12 (by decide) ?_
    exact rt_ni C h hr hlk hf (by decide) d_Ni_take_13
theorem hd_Ni_takeAll : y_Ni_takeAll.cls ≠ "java/lang/invoke/MethodHandle" ∧ y_Ni_takeAll.cls ≠ "java/lang/invoke/VarHandle" ∧ (parseMethodDescriptor y_Ni_takeAll.desc).map (fun d => d.parameters.length) = some 1 := by decide +kernel
theorem d_Ni_takeAll_0 : decode b_Ni_takeAll 0 = .ok (.iconst 0, 1) := by decide +kernel
theorem d_Ni_takeAll_1 : decode b_Ni_takeAll 1 = .ok (.istore_n 2, 1) := by decide +kernel
theorem d_Ni_takeAll_2 : decode b_Ni_takeAll 2 = .ok (.iload_n 2, 1) := by decide +kernel
theorem d_Ni_takeAll_3 : decode b_Ni_takeAll 3 = .ok (.aload_n 1, 1) := by decide +kernel
theorem d_Ni_takeAll_4 : decode b_Ni_takeAll 4 = .ok (.invokevirtual 93, 3) := by decide +kernel
theorem d_Ni_takeAll_7 : decode b_Ni_takeAll 7 = .ok (.if_icmp .ge 23, 3) := by decide +kernel
theorem d_Ni_takeAll_10 : decode b_Ni_takeAll 10 = .ok (.aload_n 0, 1) := by decide +kernel
theorem d_Ni_takeAll_11 : decode b_Ni_takeAll 11 = .ok (.aload_n 1, 1) := by decide +kernel
theorem d_Ni_takeAll_12 : decode b_Ni_takeAll 12 = .ok (.iload_n 2, 1) := by decide +kernel
theorem d_Ni_takeAll_13 : decode b_Ni_takeAll 13 = .ok (.invokevirtual 98, 3) := by decide +kernel
theorem d_Ni_takeAll_16 : decode b_Ni_takeAll 16 = .ok (.invokevirtual 50, 3) := by decide +kernel
theorem d_Ni_takeAll_19 : decode b_Ni_takeAll 19 = .ok (.ifCond .ne 5, 3) := by decide +kernel
theorem d_Ni_takeAll_22 : decode b_Ni_takeAll 22 = .ok (.iconst 0, 1) := by decide +kernel
theorem d_Ni_takeAll_23 : decode b_Ni_takeAll 23 = .ok (.ireturn, 1) := by decide +kernel
theorem d_Ni_takeAll_24 : decode b_Ni_takeAll 24 = .ok (.iinc 2 1, 3) := by decide +kernel
theorem d_Ni_takeAll_27 : decode b_Ni_takeAll 27 = .ok (.goto (-25), 3) := by decide +kernel
theorem d_Ni_takeAll_30 : decode b_Ni_takeAll 30 = .ok (.iconst 1, 1) := by decide +kernel
theorem d_Ni_takeAll_31 : decode b_Ni_takeAll 31 = .ok (.ireturn, 1) := by decide +kernel
def l_Ni_takeAll_2 (n : Nat) (tl : Nat) (v1 : Nat)   : Nat → Int32 → (Nat → Int32) → (Nat → Nat → Int32) → Option (Int32 × MU)
  | 0, _, _, _ => none
  | k + 1, v2, I, R => (p_String_length n v1).bind fun x2 => (if x2 ≤ v2 then some (1, I, R) else (p_String_charAt n v1 v2).bind fun x4 => (p_Ni_take n tl x4 I R).bind fun (x8, I6, R7) => (if x8 = 0 then some (0, I6, R7) else l_Ni_takeAll_2 n tl v1 k (v2 + 1) I6 R7))
set_option maxHeartbeats 4000000 in
theorem wl_Ni_takeAll_2  {p : Program} {l : Launch} {e : Env} {s : State} {m : MethodId} {args : Array Value} {below : List Frame} {meth : Method} {c : Code} {dC : Nat → ClassId} {dI : Nat → Nat → Nat} {ad : Nat → Nat} {cI : ClassId} {tl : Nat} {A : Nat → Prop} {adK adV : Nat → Nat} (C : nC p s m args c b_Ni_takeAll 3 dC dI cI tl A adK adV) (hA : ∀ q, s.heap.size ≤ q → A q) (hr : meth.sig.returnType = some .boolean) (hlk : meth.locks = false) (n : Nat) (v1 : Nat) (hv1 : v1 < 12)   : ∀ (k : Nat) (v2 : Int32) (I : Nat → Int32) (R : Nat → Nat → Int32) (z : Int32 × MU), l_Ni_takeAll_2 n tl v1 k v2 I R = some z → ∀ (ls : Array Slot), lv_has ls 3 [(0, .ref (ad 0)), (1, .ref (adK v1)), (2, .int v2)] → ∀ (H : Heap) (locs : List Loc), nH A s.heap dC dI ad cI tl I R H locs → W p l e (rL 7) s m args below meth c H locs 0 0 (nQi dC dI ad cI tl A below args s z) (F0 m 2 ls []) := by
  obtain ⟨hx, hb, hml, hown, hT, -⟩ := id C
  intro k
  induction k with
  | zero => intro v2 I R z hf; exact absurd hf (by unfold l_Ni_takeAll_2; exact fun h9 => by cases h9)
  | succ k ih =>
    intro v2 I R z hf ls hl H locs h
    unfold l_Ni_takeAll_2 at hf
    refine lv_iload_n hx hb d_Ni_takeAll_2 rfl (lv_at hl 2 rfl) ?_
    refine lv_aload_n hx hb d_Ni_takeAll_3 rfl (lv_at hl 1 rfl) ?_
    obtain ⟨x2, hc1, hf⟩ := op_bind hf
    refine kt_v (i := v1) (rest := [.int v2]) hx hb hml hown hT (nT C h) hv1 (c_String_length l n adK adV v1 hv1 _ hc1) (cbW 0 hT cd_String_length rfl rfl ini_String ml_Ni_93 hd_String_length ⟨Nat.le_of_ble_eq_true rfl, Nat.le_of_ble_eq_true rfl⟩) im_String_length se_String_String_length__String_length rfl hl.1 rfl (Nat.le_of_ble_eq_true rfl) d_Ni_takeAll_4 ⟨Nat.zero_le _, Nat.zero_le _⟩ ?_
    refine lv_icmp_ge (tgt := 30) hx hb d_Ni_takeAll_7 (by decide) (fun hc => ?_) (fun hc => ?_)
    · have hf := op_t hc hf
      refine lv_iconst (v := 1) hx hb d_Ni_takeAll_30 (by decide) ?_
      exact rt_ni C h hr hlk hf (by decide) d_Ni_takeAll_31
    · have hf := op_f hc hf
      refine lv_aload_n hx hb d_Ni_takeAll_10 rfl (lv_at hl 0 rfl) ?_
      refine lv_aload_n hx hb d_Ni_takeAll_11 rfl (lv_at hl 1 rfl) ?_
      refine lv_iload_n hx hb d_Ni_takeAll_12 rfl (lv_at hl 2 rfl) ?_
      obtain ⟨x4, hc3, hf⟩ := op_bind hf
      refine kt_v (i := v1) (rest := [.ref (ad 0)]) hx hb hml hown hT (nT C h) hv1 (c_String_charAt l n adK adV v1 v2 hv1 _ hc3) (cbW 1 hT cd_String_charAt rfl rfl ini_String ml_Ni_98 hd_String_charAt ⟨Nat.le_of_ble_eq_true rfl, Nat.le_of_ble_eq_true rfl⟩) im_String_charAt se_String_String_charAt__String_charAt rfl hl.1 rfl (Nat.le_of_ble_eq_true rfl) d_Ni_takeAll_13 ⟨Nat.zero_le _, Nat.zero_le _⟩ ?_
      obtain ⟨⟨x8, I6, R7⟩, hc5, hf⟩ := op_bind hf
      try dsimp only at hf
      refine kn_i (rest := []) C h hA (c_Ni_take l n tl x4 I R) hc5 (cbW 1 hT cd_Ni_take rfl rfl ini_Ni ml_Ni_50 hd_Ni_take ⟨Nat.le_of_ble_eq_true rfl, Nat.le_of_ble_eq_true rfl⟩) im_Ni_take sp_Ni_take rfl hl.1 rfl (Nat.le_of_ble_eq_true rfl) d_Ni_takeAll_16 ⟨Nat.zero_le _, Nat.zero_le _⟩ (fun H locs h => ?_)
      refine lv_if_ne (tgt := 24) hx hb d_Ni_takeAll_19 (by decide) (fun hc => ?_) (fun hc => ?_)
      · have hf := op_f hc hf
        refine lv_iinc (v := (v2 + 1)) (lv' := [(2, .int (v2 + 1)), (0, .ref (ad 0)), (1, .ref (adK v1))]) hx hb d_Ni_takeAll_24 hl (k := 2) rfl rfl (by decide) rfl (fun ls hl => ?_)
        refine lv_goto (tgt := 2) hx hb d_Ni_takeAll_27 (by decide) ?_
        exact ih (v2 + 1) I6 R7 _ hf ls (lv_sub hl [1, 2, 0] rfl) H locs h
      · have hf := op_t hc hf
        refine lv_iconst (v := 0) hx hb d_Ni_takeAll_22 (by decide) ?_
        exact rt_ni C h hr hlk hf (by decide) d_Ni_takeAll_23
def p_Ni_takeAll (n : Nat) (tl : Nat) (v1 : Nat) (I : Nat → Int32) (R : Nat → Nat → Int32) : Option (Int32 × MU) := l_Ni_takeAll_2 n tl v1 n 0 I R
set_option maxHeartbeats 4000000 in
theorem c_Ni_takeAll (l : Launch) (n : Nat) (tl : Nat) (v1 : Nat) (I : Nat → Int32) (R : Nat → Nat → Int32) (hv1 : v1 < 12) : NMi l y_Ni_takeAll b_Ni_takeAll 3 .boolean (rL 7) tl (fun ad adK => [.ref (adK v1)]) I R (p_Ni_takeAll n tl v1 I R) := by
  refine en_ni (by decide) rfl (fun _ _ => Nat.le_of_ble_eq_true rfl) ?_
  intro z hf p e s m args below meth c dC dI ad cI A adK adV ls C hA h hr hlk hl
  have hl : lv_has ls 3 [(0, .ref (ad 0)), (1, .ref (adK v1))] := hl
  unfold p_Ni_takeAll at hf
  obtain ⟨hx, hb, hml, hown, hT, -⟩ := id C
  refine lv_iconst (v := 0) hx hb d_Ni_takeAll_0 (by decide) ?_
  refine lv_istore_n (lv' := [(2, .int 0), (0, .ref (ad 0)), (1, .ref (adK v1))]) hx hb d_Ni_takeAll_1 rfl hl (by decide) rfl (fun ls hl => ?_)
  exact wl_Ni_takeAll_2 C hA hr hlk n v1 hv1 n 0 I R _ hf ls (lv_sub hl [1, 2, 0] rfl) s.heap [] h
theorem hd_Ni_readNumber : y_Ni_readNumber.cls ≠ "java/lang/invoke/MethodHandle" ∧ y_Ni_readNumber.cls ≠ "java/lang/invoke/VarHandle" ∧ (parseMethodDescriptor y_Ni_readNumber.desc).map (fun d => d.parameters.length) = some 0 := by decide +kernel
theorem d_Ni_readNumber_0 : decode b_Ni_readNumber 0 = .ok (.aload_n 0, 1) := by decide +kernel
theorem d_Ni_readNumber_1 : decode b_Ni_readNumber 1 = .ok (.getfield 54, 3) := by decide +kernel
theorem d_Ni_readNumber_4 : decode b_Ni_readNumber 4 = .ok (.aload_n 0, 1) := by decide +kernel
theorem d_Ni_readNumber_5 : decode b_Ni_readNumber 5 = .ok (.getfield 38, 3) := by decide +kernel
theorem d_Ni_readNumber_8 : decode b_Ni_readNumber 8 = .ok (.arraylength, 1) := by decide +kernel
theorem d_Ni_readNumber_9 : decode b_Ni_readNumber 9 = .ok (.if_icmp .ge 18, 3) := by decide +kernel
theorem d_Ni_readNumber_12 : decode b_Ni_readNumber 12 = .ok (.aload_n 0, 1) := by decide +kernel
theorem d_Ni_readNumber_13 : decode b_Ni_readNumber 13 = .ok (.getfield 38, 3) := by decide +kernel
theorem d_Ni_readNumber_16 : decode b_Ni_readNumber 16 = .ok (.aload_n 0, 1) := by decide +kernel
theorem d_Ni_readNumber_17 : decode b_Ni_readNumber 17 = .ok (.getfield 54, 3) := by decide +kernel
theorem d_Ni_readNumber_20 : decode b_Ni_readNumber 20 = .ok (.iaload, 1) := by decide +kernel
theorem d_Ni_readNumber_21 : decode b_Ni_readNumber 21 = .ok (.bipush 48, 2) := by decide +kernel
theorem d_Ni_readNumber_23 : decode b_Ni_readNumber 23 = .ok (.isub, 1) := by decide +kernel
theorem d_Ni_readNumber_24 : decode b_Ni_readNumber 24 = .ok (.goto 4, 3) := by decide +kernel
theorem d_Ni_readNumber_27 : decode b_Ni_readNumber 27 = .ok (.iconst (-1), 1) := by decide +kernel
theorem d_Ni_readNumber_28 : decode b_Ni_readNumber 28 = .ok (.istore_n 1, 1) := by decide +kernel
theorem d_Ni_readNumber_29 : decode b_Ni_readNumber 29 = .ok (.iload_n 1, 1) := by decide +kernel
theorem d_Ni_readNumber_30 : decode b_Ni_readNumber 30 = .ok (.ifCond .lt 9, 3) := by decide +kernel
theorem d_Ni_readNumber_33 : decode b_Ni_readNumber 33 = .ok (.iload_n 1, 1) := by decide +kernel
theorem d_Ni_readNumber_34 : decode b_Ni_readNumber 34 = .ok (.bipush 9, 2) := by decide +kernel
theorem d_Ni_readNumber_36 : decode b_Ni_readNumber 36 = .ok (.if_icmp .le 5, 3) := by decide +kernel
theorem d_Ni_readNumber_39 : decode b_Ni_readNumber 39 = .ok (.iconst (-1), 1) := by decide +kernel
theorem d_Ni_readNumber_40 : decode b_Ni_readNumber 40 = .ok (.ireturn, 1) := by decide +kernel
theorem d_Ni_readNumber_41 : decode b_Ni_readNumber 41 = .ok (.aload_n 0, 1) := by decide +kernel
theorem d_Ni_readNumber_42 : decode b_Ni_readNumber 42 = .ok (.dup, 1) := by decide +kernel
theorem d_Ni_readNumber_43 : decode b_Ni_readNumber 43 = .ok (.getfield 54, 3) := by decide +kernel
theorem d_Ni_readNumber_46 : decode b_Ni_readNumber 46 = .ok (.iconst 1, 1) := by decide +kernel
theorem d_Ni_readNumber_47 : decode b_Ni_readNumber 47 = .ok (.iadd, 1) := by decide +kernel
theorem d_Ni_readNumber_48 : decode b_Ni_readNumber 48 = .ok (.putfield 54, 3) := by decide +kernel
theorem d_Ni_readNumber_51 : decode b_Ni_readNumber 51 = .ok (.aload_n 0, 1) := by decide +kernel
theorem d_Ni_readNumber_52 : decode b_Ni_readNumber 52 = .ok (.getfield 54, 3) := by decide +kernel
theorem d_Ni_readNumber_55 : decode b_Ni_readNumber 55 = .ok (.aload_n 0, 1) := by decide +kernel
theorem d_Ni_readNumber_56 : decode b_Ni_readNumber 56 = .ok (.getfield 38, 3) := by decide +kernel
theorem d_Ni_readNumber_59 : decode b_Ni_readNumber 59 = .ok (.arraylength, 1) := by decide +kernel
theorem d_Ni_readNumber_60 : decode b_Ni_readNumber 60 = .ok (.if_icmp .ge 18, 3) := by decide +kernel
theorem d_Ni_readNumber_63 : decode b_Ni_readNumber 63 = .ok (.aload_n 0, 1) := by decide +kernel
theorem d_Ni_readNumber_64 : decode b_Ni_readNumber 64 = .ok (.getfield 38, 3) := by decide +kernel
theorem d_Ni_readNumber_67 : decode b_Ni_readNumber 67 = .ok (.aload_n 0, 1) := by decide +kernel
theorem d_Ni_readNumber_68 : decode b_Ni_readNumber 68 = .ok (.getfield 54, 3) := by decide +kernel
theorem d_Ni_readNumber_71 : decode b_Ni_readNumber 71 = .ok (.iaload, 1) := by decide +kernel
theorem d_Ni_readNumber_72 : decode b_Ni_readNumber 72 = .ok (.bipush 48, 2) := by decide +kernel
theorem d_Ni_readNumber_74 : decode b_Ni_readNumber 74 = .ok (.isub, 1) := by decide +kernel
theorem d_Ni_readNumber_75 : decode b_Ni_readNumber 75 = .ok (.goto 4, 3) := by decide +kernel
theorem d_Ni_readNumber_78 : decode b_Ni_readNumber 78 = .ok (.iconst (-1), 1) := by decide +kernel
theorem d_Ni_readNumber_79 : decode b_Ni_readNumber 79 = .ok (.istore_n 2, 1) := by decide +kernel
theorem d_Ni_readNumber_80 : decode b_Ni_readNumber 80 = .ok (.iload_n 1, 1) := by decide +kernel
theorem d_Ni_readNumber_81 : decode b_Ni_readNumber 81 = .ok (.ifCond .eq 13, 3) := by decide +kernel
theorem d_Ni_readNumber_84 : decode b_Ni_readNumber 84 = .ok (.iload_n 2, 1) := by decide +kernel
theorem d_Ni_readNumber_85 : decode b_Ni_readNumber 85 = .ok (.ifCond .lt 9, 3) := by decide +kernel
theorem d_Ni_readNumber_88 : decode b_Ni_readNumber 88 = .ok (.iload_n 2, 1) := by decide +kernel
theorem d_Ni_readNumber_89 : decode b_Ni_readNumber 89 = .ok (.bipush 9, 2) := by decide +kernel
theorem d_Ni_readNumber_91 : decode b_Ni_readNumber 91 = .ok (.if_icmp .le 5, 3) := by decide +kernel
theorem d_Ni_readNumber_94 : decode b_Ni_readNumber 94 = .ok (.iload_n 1, 1) := by decide +kernel
theorem d_Ni_readNumber_95 : decode b_Ni_readNumber 95 = .ok (.ireturn, 1) := by decide +kernel
theorem d_Ni_readNumber_96 : decode b_Ni_readNumber 96 = .ok (.aload_n 0, 1) := by decide +kernel
theorem d_Ni_readNumber_97 : decode b_Ni_readNumber 97 = .ok (.dup, 1) := by decide +kernel
theorem d_Ni_readNumber_98 : decode b_Ni_readNumber 98 = .ok (.getfield 54, 3) := by decide +kernel
theorem d_Ni_readNumber_101 : decode b_Ni_readNumber 101 = .ok (.iconst 1, 1) := by decide +kernel
theorem d_Ni_readNumber_102 : decode b_Ni_readNumber 102 = .ok (.iadd, 1) := by decide +kernel
theorem d_Ni_readNumber_103 : decode b_Ni_readNumber 103 = .ok (.putfield 54, 3) := by decide +kernel
theorem d_Ni_readNumber_106 : decode b_Ni_readNumber 106 = .ok (.iload_n 1, 1) := by decide +kernel
theorem d_Ni_readNumber_107 : decode b_Ni_readNumber 107 = .ok (.bipush 10, 2) := by decide +kernel
theorem d_Ni_readNumber_109 : decode b_Ni_readNumber 109 = .ok (.imul, 1) := by decide +kernel
theorem d_Ni_readNumber_110 : decode b_Ni_readNumber 110 = .ok (.iload_n 2, 1) := by decide +kernel
theorem d_Ni_readNumber_111 : decode b_Ni_readNumber 111 = .ok (.iadd, 1) := by decide +kernel
theorem d_Ni_readNumber_112 : decode b_Ni_readNumber 112 = .ok (.ireturn, 1) := by decide +kernel
def p_Ni_readNumber (n : Nat) (tl : Nat)  (I : Nat → Int32) (R : Nat → Nat → Int32) : Option (Int32 × MU) := (if (nI tl) ≤ (I 4) then some (-1) else if ix (I 4) tl then some ((R 3 (I 4).toNatClampNeg) - 48) else none : Option (Int32)).bind fun x2 => (if x2 < 0 then some ((-1), I, R) else (if x2 ≤ 9 then (if (nI tl) ≤ ((upd I 4 ((I 4) + 1)) 4) then some (-1) else if ix ((upd I 4 ((I 4) + 1)) 4) tl then some ((R 3 ((upd I 4 ((I 4) + 1)) 4).toNatClampNeg) - 48) else none : Option (Int32)).bind fun x5 => (if x2 = 0 then some (x2, (upd I 4 ((I 4) + 1)), R) else (if x5 < 0 then some (x2, (upd I 4 ((I 4) + 1)), R) else (if x5 ≤ 9 then some (((x2 * 10) + x5), (upd (upd I 4 ((I 4) + 1)) 4 (((upd I 4 ((I 4) + 1)) 4) + 1)), R) else some (x2, (upd I 4 ((I 4) + 1)), R)))) else some ((-1), I, R)))
set_option maxHeartbeats 4000000 in
theorem c_Ni_readNumber (l : Launch) (n : Nat) (tl : Nat)  (I : Nat → Int32) (R : Nat → Nat → Int32)  : NMi l y_Ni_readNumber b_Ni_readNumber 3 .int (rL 5) tl (fun ad adK => []) I R (p_Ni_readNumber n tl I R) := by
  refine en_ni (by decide) rfl (fun _ _ => Nat.le_of_ble_eq_true rfl) ?_
  intro z hf p e s m args below meth c dC dI ad cI A adK adV ls C hA h hr hlk hl
  have hl : lv_has ls 3 [(0, .ref (ad 0))] := hl
  unfold p_Ni_readNumber at hf
  obtain ⟨hx, hb, hml, hown, hT, -⟩ := id C
  refine lv_aload_n hx hb d_Ni_readNumber_0 rfl (lv_at hl 0 rfl) ?_
  refine ng_4 C h d_Ni_readNumber_1 ?_
  refine lv_aload_n hx hb d_Ni_readNumber_4 rfl (lv_at hl 0 rfl) ?_
  refine ng_3 C h d_Ni_readNumber_5 ?_
  refine nl_3 C h d_Ni_readNumber_8 ?_
  obtain ⟨x2, he, hf⟩ := op_bind hf
  have K1 : ∀ (ls : Array Slot), lv_has ls 3 [(0, .ref (ad 0))] → ∀ (H : Heap) (locs : List Loc), nH A s.heap dC dI ad cI tl I R H locs → W p l e (rL 5) s m args below meth c H locs 0 0 (nQi dC dI ad cI tl A below args s z) (F0 m 28 ls [.int x2]) := by
    intro ls hl H locs h
    refine lv_istore_n (lv' := [(1, .int x2), (0, .ref (ad 0))]) hx hb d_Ni_readNumber_28 rfl hl (by decide) rfl (fun ls hl => ?_)
    refine lv_iload_n hx hb d_Ni_readNumber_29 rfl (lv_at hl 0 rfl) ?_
    refine lv_if_lt (tgt := 39) hx hb d_Ni_readNumber_30 (by decide) (fun hc => ?_) (fun hc => ?_)
    · have hf := op_t hc hf
      refine lv_iconst (v := (-1)) hx hb d_Ni_readNumber_39 (by decide) ?_
      exact rt_ni C h hr hlk hf rfl d_Ni_readNumber_40
    · have hf := op_f hc hf
      refine lv_iload_n hx hb d_Ni_readNumber_33 rfl (lv_at hl 0 rfl) ?_
      refine lv_bipush (v := 9) hx hb d_Ni_readNumber_34 (by decide) ?_
      refine lv_icmp_le (tgt := 41) hx hb d_Ni_readNumber_36 (by decide) (fun hc => ?_) (fun hc => ?_)
      · have hf := op_t hc hf
        refine lv_aload_n hx hb d_Ni_readNumber_41 rfl (lv_at hl 1 rfl) ?_
        refine lv_dup hx hb d_Ni_readNumber_42 rfl ?_
        refine ng_4 C h d_Ni_readNumber_43 ?_
        refine lv_iconst (v := 1) hx hb d_Ni_readNumber_46 (by decide) ?_
        refine lv_iadd hx hb d_Ni_readNumber_47 ?_
        refine np_4 C h d_Ni_readNumber_48 (fun H locs h => ?_)
        refine lv_aload_n hx hb d_Ni_readNumber_51 rfl (lv_at hl 1 rfl) ?_
        refine ng_4 C h d_Ni_readNumber_52 ?_
        refine lv_aload_n hx hb d_Ni_readNumber_55 rfl (lv_at hl 1 rfl) ?_
        refine ng_3 C h d_Ni_readNumber_56 ?_
        refine nl_3 C h d_Ni_readNumber_59 ?_
        obtain ⟨x5, he, hf⟩ := op_bind hf
        have K4 : ∀ (ls : Array Slot), lv_has ls 3 [(0, .ref (ad 0)), (1, .int x2)] → ∀ (H : Heap) (locs : List Loc), nH A s.heap dC dI ad cI tl (upd I 4 ((I 4) + 1)) R H locs → W p l e (rL 5) s m args below meth c H locs 0 0 (nQi dC dI ad cI tl A below args s z) (F0 m 79 ls [.int x5]) := by
          intro ls hl H locs h
          refine lv_istore_n (lv' := [(2, .int x5), (0, .ref (ad 0)), (1, .int x2)]) hx hb d_Ni_readNumber_79 rfl hl (by decide) rfl (fun ls hl => ?_)
          refine lv_iload_n hx hb d_Ni_readNumber_80 rfl (lv_at hl 2 rfl) ?_
          refine lv_if_eq (tgt := 94) hx hb d_Ni_readNumber_81 (by decide) (fun hc => ?_) (fun hc => ?_)
          · have hf := op_t hc hf
            refine lv_iload_n hx hb d_Ni_readNumber_94 rfl (lv_at hl 2 rfl) ?_
            exact rt_ni C h hr hlk hf rfl d_Ni_readNumber_95
          · have hf := op_f hc hf
            refine lv_iload_n hx hb d_Ni_readNumber_84 rfl (lv_at hl 0 rfl) ?_
            refine lv_if_lt (tgt := 94) hx hb d_Ni_readNumber_85 (by decide) (fun hc => ?_) (fun hc => ?_)
            · have hf := op_t hc hf
              refine lv_iload_n hx hb d_Ni_readNumber_94 rfl (lv_at hl 2 rfl) ?_
              exact rt_ni C h hr hlk hf rfl d_Ni_readNumber_95
            · have hf := op_f hc hf
              refine lv_iload_n hx hb d_Ni_readNumber_88 rfl (lv_at hl 0 rfl) ?_
              refine lv_bipush (v := 9) hx hb d_Ni_readNumber_89 (by decide) ?_
              refine lv_icmp_le (tgt := 96) hx hb d_Ni_readNumber_91 (by decide) (fun hc => ?_) (fun hc => ?_)
              · have hf := op_t hc hf
                refine lv_aload_n hx hb d_Ni_readNumber_96 rfl (lv_at hl 1 rfl) ?_
                refine lv_dup hx hb d_Ni_readNumber_97 rfl ?_
                refine ng_4 C h d_Ni_readNumber_98 ?_
                refine lv_iconst (v := 1) hx hb d_Ni_readNumber_101 (by decide) ?_
                refine lv_iadd hx hb d_Ni_readNumber_102 ?_
                refine np_4 C h d_Ni_readNumber_103 (fun H locs h => ?_)
                refine lv_iload_n hx hb d_Ni_readNumber_106 rfl (lv_at hl 2 rfl) ?_
                refine lv_bipush (v := 10) hx hb d_Ni_readNumber_107 (by decide) ?_
                refine lv_imul hx hb d_Ni_readNumber_109 ?_
                refine lv_iload_n hx hb d_Ni_readNumber_110 rfl (lv_at hl 0 rfl) ?_
                refine lv_iadd hx hb d_Ni_readNumber_111 ?_
                exact rt_ni C h hr hlk hf rfl d_Ni_readNumber_112
              · have hf := op_f hc hf
                refine lv_iload_n hx hb d_Ni_readNumber_94 rfl (lv_at hl 2 rfl) ?_
                exact rt_ni C h hr hlk hf rfl d_Ni_readNumber_95
        have hf := he
        refine lv_icmp_ge (tgt := 78) hx hb d_Ni_readNumber_60 (by decide) (fun hc => ?_) (fun hc => ?_)
        · have hf := op_t hc hf
          refine lv_iconst (v := (-1)) hx hb d_Ni_readNumber_78 (by decide) ?_
          obtain rfl := op_i1 hf
          exact K4 ls (lv_sub hl [1, 0] rfl) H locs h
        · have hf := op_f hc hf
          refine lv_aload_n hx hb d_Ni_readNumber_63 rfl (lv_at hl 1 rfl) ?_
          refine ng_3 C h d_Ni_readNumber_64 ?_
          refine lv_aload_n hx hb d_Ni_readNumber_67 rfl (lv_at hl 1 rfl) ?_
          refine ng_4 C h d_Ni_readNumber_68 ?_
          obtain ⟨h6, hf⟩ := op_if hf
          refine na_3 C h rfl h6 d_Ni_readNumber_71 ?_
          refine lv_bipush (v := 48) hx hb d_Ni_readNumber_72 (by decide) ?_
          refine lv_isub hx hb d_Ni_readNumber_74 ?_
          refine lv_goto (tgt := 79) hx hb d_Ni_readNumber_75 (by decide) ?_
          obtain rfl := op_i1 hf
          exact K4 ls (lv_sub hl [1, 0] rfl) H locs h
      · have hf := op_f hc hf
        refine lv_iconst (v := (-1)) hx hb d_Ni_readNumber_39 (by decide) ?_
        exact rt_ni C h hr hlk hf rfl d_Ni_readNumber_40
  have hf := he
  refine lv_icmp_ge (tgt := 27) hx hb d_Ni_readNumber_9 (by decide) (fun hc => ?_) (fun hc => ?_)
  · have hf := op_t hc hf
    refine lv_iconst (v := (-1)) hx hb d_Ni_readNumber_27 (by decide) ?_
    obtain rfl := op_i1 hf
    exact K1 ls (lv_sub hl [0] rfl) s.heap [] h
  · have hf := op_f hc hf
    refine lv_aload_n hx hb d_Ni_readNumber_12 rfl (lv_at hl 0 rfl) ?_
    refine ng_3 C h d_Ni_readNumber_13 ?_
    refine lv_aload_n hx hb d_Ni_readNumber_16 rfl (lv_at hl 0 rfl) ?_
    refine ng_4 C h d_Ni_readNumber_17 ?_
    obtain ⟨h3, hf⟩ := op_if hf
    refine na_3 C h rfl h3 d_Ni_readNumber_20 ?_
    refine lv_bipush (v := 48) hx hb d_Ni_readNumber_21 (by decide) ?_
    refine lv_isub hx hb d_Ni_readNumber_23 ?_
    refine lv_goto (tgt := 28) hx hb d_Ni_readNumber_24 (by decide) ?_
    obtain rfl := op_i1 hf
    exact K1 ls (lv_sub hl [0] rfl) s.heap [] h
theorem hd_Ni_addCode : y_Ni_addCode.cls ≠ "java/lang/invoke/MethodHandle" ∧ y_Ni_addCode.cls ≠ "java/lang/invoke/VarHandle" ∧ (parseMethodDescriptor y_Ni_addCode.desc).map (fun d => d.parameters.length) = some 1 := by decide +kernel
theorem d_Ni_addCode_0 : decode b_Ni_addCode 0 = .ok (.aload_n 0, 1) := by decide +kernel
theorem d_Ni_addCode_1 : decode b_Ni_addCode 1 = .ok (.getfield 75, 3) := by decide +kernel
theorem d_Ni_addCode_4 : decode b_Ni_addCode 4 = .ok (.aload_n 0, 1) := by decide +kernel
theorem d_Ni_addCode_5 : decode b_Ni_addCode 5 = .ok (.getfield 47, 3) := by decide +kernel
theorem d_Ni_addCode_8 : decode b_Ni_addCode 8 = .ok (.arraylength, 1) := by decide +kernel
theorem d_Ni_addCode_9 : decode b_Ni_addCode 9 = .ok (.if_icmp .lt 4, 3) := by decide +kernel
theorem d_Ni_addCode_12 : decode b_Ni_addCode 12 = .ok (.return_, 1) := by decide +kernel
theorem d_Ni_addCode_13 : decode b_Ni_addCode 13 = .ok (.aload_n 0, 1) := by decide +kernel
theorem d_Ni_addCode_14 : decode b_Ni_addCode 14 = .ok (.getfield 47, 3) := by decide +kernel
theorem d_Ni_addCode_17 : decode b_Ni_addCode 17 = .ok (.aload_n 0, 1) := by decide +kernel
theorem d_Ni_addCode_18 : decode b_Ni_addCode 18 = .ok (.getfield 75, 3) := by decide +kernel
theorem d_Ni_addCode_21 : decode b_Ni_addCode 21 = .ok (.iload_n 1, 1) := by decide +kernel
theorem d_Ni_addCode_22 : decode b_Ni_addCode 22 = .ok (.iastore, 1) := by decide +kernel
theorem d_Ni_addCode_23 : decode b_Ni_addCode 23 = .ok (.aload_n 0, 1) := by decide +kernel
theorem d_Ni_addCode_24 : decode b_Ni_addCode 24 = .ok (.dup, 1) := by decide +kernel
theorem d_Ni_addCode_25 : decode b_Ni_addCode 25 = .ok (.getfield 75, 3) := by decide +kernel
theorem d_Ni_addCode_28 : decode b_Ni_addCode 28 = .ok (.iconst 1, 1) := by decide +kernel
theorem d_Ni_addCode_29 : decode b_Ni_addCode 29 = .ok (.iadd, 1) := by decide +kernel
theorem d_Ni_addCode_30 : decode b_Ni_addCode 30 = .ok (.putfield 75, 3) := by decide +kernel
theorem d_Ni_addCode_33 : decode b_Ni_addCode 33 = .ok (.return_, 1) := by decide +kernel
def p_Ni_addCode (n : Nat) (tl : Nat) (v1 : Int32) (I : Nat → Int32) (R : Nat → Nat → Int32) : Option (MU) := (if (I 6) < (nI tl) then if ix (I 6) tl then some ((upd I 6 ((I 6) + 1)), (upR R 5 (I 6).toNatClampNeg v1)) else none else some (I, R))
set_option maxHeartbeats 4000000 in
theorem c_Ni_addCode (l : Launch) (n : Nat) (tl : Nat) (v1 : Int32) (I : Nat → Int32) (R : Nat → Nat → Int32)  : NMv l y_Ni_addCode b_Ni_addCode 2 (rL 5) tl (fun ad adK => [.int v1]) I R (p_Ni_addCode n tl v1 I R) := by
  refine en_nv (by decide) rfl (fun _ _ => Nat.le_of_ble_eq_true rfl) ?_
  intro z hf p e s m args below meth c dC dI ad cI A adK adV ls C hA h hr hlk hl
  have hl : lv_has ls 2 [(0, .ref (ad 0)), (1, .int v1)] := hl
  unfold p_Ni_addCode at hf
  obtain ⟨hx, hb, hml, hown, hT, -⟩ := id C
  refine lv_aload_n hx hb d_Ni_addCode_0 rfl (lv_at hl 0 rfl) ?_
  refine ng_6 C h d_Ni_addCode_1 ?_
  refine lv_aload_n hx hb d_Ni_addCode_4 rfl (lv_at hl 0 rfl) ?_
  refine ng_5 C h d_Ni_addCode_5 ?_
  refine nl_5 C h d_Ni_addCode_8 ?_
  refine lv_icmp_lt (tgt := 13) hx hb d_Ni_addCode_9 (by decide) (fun hc => ?_) (fun hc => ?_)
  · have hf := op_t hc hf
    refine lv_aload_n hx hb d_Ni_addCode_13 rfl (lv_at hl 0 rfl) ?_
    refine ng_5 C h d_Ni_addCode_14 ?_
    refine lv_aload_n hx hb d_Ni_addCode_17 rfl (lv_at hl 0 rfl) ?_
    refine ng_6 C h d_Ni_addCode_18 ?_
    refine lv_iload_n hx hb d_Ni_addCode_21 rfl (lv_at hl 1 rfl) ?_
    obtain ⟨h1, hf⟩ := op_if hf
    refine ns_5 C h rfl h1 d_Ni_addCode_22 (fun H locs h => ?_)
    refine lv_aload_n hx hb d_Ni_addCode_23 rfl (lv_at hl 0 rfl) ?_
    refine lv_dup hx hb d_Ni_addCode_24 rfl ?_
    refine ng_6 C h d_Ni_addCode_25 ?_
    refine lv_iconst (v := 1) hx hb d_Ni_addCode_28 (by decide) ?_
    refine lv_iadd hx hb d_Ni_addCode_29 ?_
    refine np_6 C h d_Ni_addCode_30 (fun H locs h => ?_)
    exact rt_nv C h hr hlk hf d_Ni_addCode_33
  · have hf := op_f hc hf
    exact rt_nv C h hr hlk hf d_Ni_addCode_12
theorem hd_Ni_addClause : y_Ni_addClause.cls ≠ "java/lang/invoke/MethodHandle" ∧ y_Ni_addClause.cls ≠ "java/lang/invoke/VarHandle" ∧ (parseMethodDescriptor y_Ni_addClause.desc).map (fun d => d.parameters.length) = some 2 := by decide +kernel
theorem d_Ni_addClause_0 : decode b_Ni_addClause 0 = .ok (.aload_n 0, 1) := by decide +kernel
theorem d_Ni_addClause_1 : decode b_Ni_addClause 1 = .ok (.getfield 72, 3) := by decide +kernel
theorem d_Ni_addClause_4 : decode b_Ni_addClause 4 = .ok (.bipush 10, 2) := by decide +kernel
theorem d_Ni_addClause_6 : decode b_Ni_addClause 6 = .ok (.if_icmp .lt 4, 3) := by decide +kernel
theorem d_Ni_addClause_9 : decode b_Ni_addClause 9 = .ok (.return_, 1) := by decide +kernel
theorem d_Ni_addClause_10 : decode b_Ni_addClause 10 = .ok (.aload_n 0, 1) := by decide +kernel
theorem d_Ni_addClause_11 : decode b_Ni_addClause 11 = .ok (.getfield 19, 3) := by decide +kernel
theorem d_Ni_addClause_14 : decode b_Ni_addClause 14 = .ok (.aload_n 0, 1) := by decide +kernel
theorem d_Ni_addClause_15 : decode b_Ni_addClause 15 = .ok (.getfield 72, 3) := by decide +kernel
theorem d_Ni_addClause_18 : decode b_Ni_addClause 18 = .ok (.iload_n 1, 1) := by decide +kernel
theorem d_Ni_addClause_19 : decode b_Ni_addClause 19 = .ok (.iastore, 1) := by decide +kernel
theorem d_Ni_addClause_20 : decode b_Ni_addClause 20 = .ok (.aload_n 0, 1) := by decide +kernel
theorem d_Ni_addClause_21 : decode b_Ni_addClause 21 = .ok (.getfield 23, 3) := by decide +kernel
theorem d_Ni_addClause_24 : decode b_Ni_addClause 24 = .ok (.aload_n 0, 1) := by decide +kernel
theorem d_Ni_addClause_25 : decode b_Ni_addClause 25 = .ok (.getfield 72, 3) := by decide +kernel
theorem d_Ni_addClause_28 : decode b_Ni_addClause 28 = .ok (.iload_n 2, 1) := by decide +kernel
theorem d_Ni_addClause_29 : decode b_Ni_addClause 29 = .ok (.iastore, 1) := by decide +kernel
theorem d_Ni_addClause_30 : decode b_Ni_addClause 30 = .ok (.aload_n 0, 1) := by decide +kernel
theorem d_Ni_addClause_31 : decode b_Ni_addClause 31 = .ok (.getfield 26, 3) := by decide +kernel
theorem d_Ni_addClause_34 : decode b_Ni_addClause 34 = .ok (.aload_n 0, 1) := by decide +kernel
theorem d_Ni_addClause_35 : decode b_Ni_addClause 35 = .ok (.getfield 72, 3) := by decide +kernel
theorem d_Ni_addClause_38 : decode b_Ni_addClause 38 = .ok (.aload_n 0, 1) := by decide +kernel
theorem d_Ni_addClause_39 : decode b_Ni_addClause 39 = .ok (.getfield 75, 3) := by decide +kernel
theorem d_Ni_addClause_42 : decode b_Ni_addClause 42 = .ok (.iastore, 1) := by decide +kernel
theorem d_Ni_addClause_43 : decode b_Ni_addClause 43 = .ok (.aload_n 0, 1) := by decide +kernel
theorem d_Ni_addClause_44 : decode b_Ni_addClause 44 = .ok (.dup, 1) := by decide +kernel
theorem d_Ni_addClause_45 : decode b_Ni_addClause 45 = .ok (.getfield 72, 3) := by decide +kernel
theorem d_Ni_addClause_48 : decode b_Ni_addClause 48 = .ok (.iconst 1, 1) := by decide +kernel
theorem d_Ni_addClause_49 : decode b_Ni_addClause 49 = .ok (.iadd, 1) := by decide +kernel
theorem d_Ni_addClause_50 : decode b_Ni_addClause 50 = .ok (.putfield 72, 3) := by decide +kernel
theorem d_Ni_addClause_53 : decode b_Ni_addClause 53 = .ok (.iload_n 1, 1) := by decide +kernel
theorem d_Ni_addClause_54 : decode b_Ni_addClause 54 = .ok (.iconst 2, 1) := by decide +kernel
theorem d_Ni_addClause_55 : decode b_Ni_addClause 55 = .ok (.if_icmp .ne 8, 3) := by decide +kernel
theorem d_Ni_addClause_58 : decode b_Ni_addClause 58 = .ok (.aload_n 0, 1) := by decide +kernel
theorem d_Ni_addClause_59 : decode b_Ni_addClause 59 = .ok (.iload_n 2, 1) := by decide +kernel
theorem d_Ni_addClause_60 : decode b_Ni_addClause 60 = .ok (.putfield 7, 3) := by decide +kernel
theorem d_Ni_addClause_63 : decode b_Ni_addClause 63 = .ok (.iload_n 1, 1) := by decide +kernel
theorem d_Ni_addClause_64 : decode b_Ni_addClause 64 = .ok (.iconst 3, 1) := by decide +kernel
theorem d_Ni_addClause_65 : decode b_Ni_addClause 65 = .ok (.if_icmp .ne 8, 3) := by decide +kernel
theorem d_Ni_addClause_68 : decode b_Ni_addClause 68 = .ok (.aload_n 0, 1) := by decide +kernel
theorem d_Ni_addClause_69 : decode b_Ni_addClause 69 = .ok (.iload_n 2, 1) := by decide +kernel
theorem d_Ni_addClause_70 : decode b_Ni_addClause 70 = .ok (.putfield 13, 3) := by decide +kernel
theorem d_Ni_addClause_73 : decode b_Ni_addClause 73 = .ok (.iload_n 1, 1) := by decide +kernel
theorem d_Ni_addClause_74 : decode b_Ni_addClause 74 = .ok (.iconst 4, 1) := by decide +kernel
theorem d_Ni_addClause_75 : decode b_Ni_addClause 75 = .ok (.if_icmp .ne 8, 3) := by decide +kernel
theorem d_Ni_addClause_78 : decode b_Ni_addClause 78 = .ok (.aload_n 0, 1) := by decide +kernel
theorem d_Ni_addClause_79 : decode b_Ni_addClause 79 = .ok (.iload_n 2, 1) := by decide +kernel
theorem d_Ni_addClause_80 : decode b_Ni_addClause 80 = .ok (.putfield 16, 3) := by decide +kernel
theorem d_Ni_addClause_83 : decode b_Ni_addClause 83 = .ok (.return_, 1) := by decide +kernel
def p_Ni_addClause (n : Nat) (tl : Nat) (v1 : Int32) (v2 : Int32) (I : Nat → Int32) (R : Nat → Nat → Int32) : Option (MU) := (if (I 10) < 10 then if ix (I 10) 10 then if ix (I 10) 10 then if ix (I 10) 10 then (if v1 = 2 then some ((upd (upd I 10 ((I 10) + 1)) 0 v2), (upR (upR (upR R 7 (I 10).toNatClampNeg v1) 8 (I 10).toNatClampNeg v2) 9 (I 10).toNatClampNeg (I 6))) else some ((upd I 10 ((I 10) + 1)), (upR (upR (upR R 7 (I 10).toNatClampNeg v1) 8 (I 10).toNatClampNeg v2) 9 (I 10).toNatClampNeg (I 6))) : Option ((Nat → Int32) × (Nat → Nat → Int32))).bind fun (I5, R6) => (if v1 = 3 then some ((upd I5 1 v2), R6) else some (I5, R6) : Option ((Nat → Int32) × (Nat → Nat → Int32))).bind fun (I8, R9) => (if v1 = 4 then some ((upd I8 2 v2), R9) else some (I8, R9)) else none else none else none else some (I, R))
set_option maxHeartbeats 4000000 in
theorem c_Ni_addClause (l : Launch) (n : Nat) (tl : Nat) (v1 : Int32) (v2 : Int32) (I : Nat → Int32) (R : Nat → Nat → Int32)  : NMv l y_Ni_addClause b_Ni_addClause 3 (rL 5) tl (fun ad adK => [.int v1, .int v2]) I R (p_Ni_addClause n tl v1 v2 I R) := by
  refine en_nv (by decide) rfl (fun _ _ => Nat.le_of_ble_eq_true rfl) ?_
  intro z hf p e s m args below meth c dC dI ad cI A adK adV ls C hA h hr hlk hl
  have hl : lv_has ls 3 [(0, .ref (ad 0)), (1, .int v1), (2, .int v2)] := hl
  unfold p_Ni_addClause at hf
  obtain ⟨hx, hb, hml, hown, hT, -⟩ := id C
  refine lv_aload_n hx hb d_Ni_addClause_0 rfl (lv_at hl 0 rfl) ?_
  refine ng_10 C h d_Ni_addClause_1 ?_
  refine lv_bipush (v := 10) hx hb d_Ni_addClause_4 (by decide) ?_
  refine lv_icmp_lt (tgt := 10) hx hb d_Ni_addClause_6 (by decide) (fun hc => ?_) (fun hc => ?_)
  · have hf := op_t hc hf
    refine lv_aload_n hx hb d_Ni_addClause_10 rfl (lv_at hl 0 rfl) ?_
    refine ng_7 C h d_Ni_addClause_11 ?_
    refine lv_aload_n hx hb d_Ni_addClause_14 rfl (lv_at hl 0 rfl) ?_
    refine ng_10 C h d_Ni_addClause_15 ?_
    refine lv_iload_n hx hb d_Ni_addClause_18 rfl (lv_at hl 1 rfl) ?_
    obtain ⟨h1, hf⟩ := op_if hf
    refine ns_7 C h rfl h1 d_Ni_addClause_19 (fun H locs h => ?_)
    refine lv_aload_n hx hb d_Ni_addClause_20 rfl (lv_at hl 0 rfl) ?_
    refine ng_8 C h d_Ni_addClause_21 ?_
    refine lv_aload_n hx hb d_Ni_addClause_24 rfl (lv_at hl 0 rfl) ?_
    refine ng_10 C h d_Ni_addClause_25 ?_
    refine lv_iload_n hx hb d_Ni_addClause_28 rfl (lv_at hl 2 rfl) ?_
    obtain ⟨h2, hf⟩ := op_if hf
    refine ns_8 C h rfl h2 d_Ni_addClause_29 (fun H locs h => ?_)
    refine lv_aload_n hx hb d_Ni_addClause_30 rfl (lv_at hl 0 rfl) ?_
    refine ng_9 C h d_Ni_addClause_31 ?_
    refine lv_aload_n hx hb d_Ni_addClause_34 rfl (lv_at hl 0 rfl) ?_
    refine ng_10 C h d_Ni_addClause_35 ?_
    refine lv_aload_n hx hb d_Ni_addClause_38 rfl (lv_at hl 0 rfl) ?_
    refine ng_6 C h d_Ni_addClause_39 ?_
    obtain ⟨h3, hf⟩ := op_if hf
    refine ns_9 C h rfl h3 d_Ni_addClause_42 (fun H locs h => ?_)
    refine lv_aload_n hx hb d_Ni_addClause_43 rfl (lv_at hl 0 rfl) ?_
    refine lv_dup hx hb d_Ni_addClause_44 rfl ?_
    refine ng_10 C h d_Ni_addClause_45 ?_
    refine lv_iconst (v := 1) hx hb d_Ni_addClause_48 (by decide) ?_
    refine lv_iadd hx hb d_Ni_addClause_49 ?_
    refine np_10 C h d_Ni_addClause_50 (fun H locs h => ?_)
    refine lv_iload_n hx hb d_Ni_addClause_53 rfl (lv_at hl 1 rfl) ?_
    refine lv_iconst (v := 2) hx hb d_Ni_addClause_54 (by decide) ?_
    obtain ⟨⟨I5, R6⟩, he, hf⟩ := op_bind hf
    try dsimp only at hf
    have K4 : ∀ (ls : Array Slot), lv_has ls 3 [(0, .ref (ad 0)), (1, .int v1), (2, .int v2)] → ∀ (H : Heap) (locs : List Loc), nH A s.heap dC dI ad cI tl I5 R6 H locs → W p l e (rL 5) s m args below meth c H locs 0 0 (nQv dC dI ad cI tl A below args s z) (F0 m 63 ls []) := by
      intro ls hl H locs h
      refine lv_iload_n hx hb d_Ni_addClause_63 rfl (lv_at hl 1 rfl) ?_
      refine lv_iconst (v := 3) hx hb d_Ni_addClause_64 (by decide) ?_
      obtain ⟨⟨I8, R9⟩, he, hf⟩ := op_bind hf
      try dsimp only at hf
      have K7 : ∀ (ls : Array Slot), lv_has ls 3 [(0, .ref (ad 0)), (1, .int v1), (2, .int v2)] → ∀ (H : Heap) (locs : List Loc), nH A s.heap dC dI ad cI tl I8 R9 H locs → W p l e (rL 5) s m args below meth c H locs 0 0 (nQv dC dI ad cI tl A below args s z) (F0 m 73 ls []) := by
        intro ls hl H locs h
        refine lv_iload_n hx hb d_Ni_addClause_73 rfl (lv_at hl 1 rfl) ?_
        refine lv_iconst (v := 4) hx hb d_Ni_addClause_74 (by decide) ?_
        refine lv_icmp_ne (tgt := 83) hx hb d_Ni_addClause_75 (by decide) (fun hc => ?_) (fun hc => ?_)
        · have hf := op_f hc hf
          exact rt_nv C h hr hlk hf d_Ni_addClause_83
        · have hf := op_t hc hf
          refine lv_aload_n hx hb d_Ni_addClause_78 rfl (lv_at hl 0 rfl) ?_
          refine lv_iload_n hx hb d_Ni_addClause_79 rfl (lv_at hl 2 rfl) ?_
          refine np_2 C h d_Ni_addClause_80 (fun H locs h => ?_)
          exact rt_nv C h hr hlk hf d_Ni_addClause_83
      have hf := he
      refine lv_icmp_ne (tgt := 73) hx hb d_Ni_addClause_65 (by decide) (fun hc => ?_) (fun hc => ?_)
      · have hf := op_f hc hf
        obtain ⟨rfl, rfl⟩ := op_i2 hf
        exact K7 ls (lv_sub hl [0, 1, 2] rfl) H locs h
      · have hf := op_t hc hf
        refine lv_aload_n hx hb d_Ni_addClause_68 rfl (lv_at hl 0 rfl) ?_
        refine lv_iload_n hx hb d_Ni_addClause_69 rfl (lv_at hl 2 rfl) ?_
        refine np_1 C h d_Ni_addClause_70 (fun H locs h => ?_)
        obtain ⟨rfl, rfl⟩ := op_i2 hf
        exact K7 ls (lv_sub hl [0, 1, 2] rfl) H locs h
    have hf := he
    refine lv_icmp_ne (tgt := 63) hx hb d_Ni_addClause_55 (by decide) (fun hc => ?_) (fun hc => ?_)
    · have hf := op_f hc hf
      obtain ⟨rfl, rfl⟩ := op_i2 hf
      exact K4 ls (lv_sub hl [0, 1, 2] rfl) H locs h
    · have hf := op_t hc hf
      refine lv_aload_n hx hb d_Ni_addClause_58 rfl (lv_at hl 0 rfl) ?_
      refine lv_iload_n hx hb d_Ni_addClause_59 rfl (lv_at hl 2 rfl) ?_
      refine np_0 C h d_Ni_addClause_60 (fun H locs h => ?_)
      obtain ⟨rfl, rfl⟩ := op_i2 hf
      exact K4 ls (lv_sub hl [0, 1, 2] rfl) H locs h
  · have hf := op_f hc hf
    exact rt_nv C h hr hlk hf d_Ni_addClause_9
theorem hd_Ni_readWord : y_Ni_readWord.cls ≠ "java/lang/invoke/MethodHandle" ∧ y_Ni_readWord.cls ≠ "java/lang/invoke/VarHandle" ∧ (parseMethodDescriptor y_Ni_readWord.desc).map (fun d => d.parameters.length) = some 0 := by decide +kernel
theorem d_Ni_readWord_0 : decode b_Ni_readWord 0 = .ok (.aload_n 0, 1) := by decide +kernel
theorem d_Ni_readWord_1 : decode b_Ni_readWord 1 = .ok (.aload_n 0, 1) := by decide +kernel
theorem d_Ni_readWord_2 : decode b_Ni_readWord 2 = .ok (.getfield 54, 3) := by decide +kernel
theorem d_Ni_readWord_5 : decode b_Ni_readWord 5 = .ok (.invokevirtual 78, 3) := by decide +kernel
theorem d_Ni_readWord_8 : decode b_Ni_readWord 8 = .ok (.lookupswitch 92 #[(98, 89), (104, 59), (111, 74), (115, 44)], 44) := by decide +kernel
theorem d_Ni_readWord_52 : decode b_Ni_readWord 52 = .ok (.aload_n 0, 1) := by decide +kernel
theorem d_Ni_readWord_53 : decode b_Ni_readWord 53 = .ok (.ldc 82, 2) := by decide +kernel
theorem d_Ni_readWord_55 : decode b_Ni_readWord 55 = .ok (.invokevirtual 84, 3) := by decide +kernel
theorem d_Ni_readWord_58 : decode b_Ni_readWord 58 = .ok (.ifCond .eq 7, 3) := by decide +kernel
theorem d_Ni_readWord_61 : decode b_Ni_readWord 61 = .ok (.iconst 0, 1) := by decide +kernel
theorem d_Ni_readWord_62 : decode b_Ni_readWord 62 = .ok (.goto 4, 3) := by decide +kernel
theorem d_Ni_readWord_65 : decode b_Ni_readWord 65 = .ok (.iconst (-1), 1) := by decide +kernel
theorem d_Ni_readWord_66 : decode b_Ni_readWord 66 = .ok (.ireturn, 1) := by decide +kernel
theorem d_Ni_readWord_67 : decode b_Ni_readWord 67 = .ok (.aload_n 0, 1) := by decide +kernel
theorem d_Ni_readWord_68 : decode b_Ni_readWord 68 = .ok (.ldc 88, 2) := by decide +kernel
theorem d_Ni_readWord_70 : decode b_Ni_readWord 70 = .ok (.invokevirtual 84, 3) := by decide +kernel
theorem d_Ni_readWord_73 : decode b_Ni_readWord 73 = .ok (.ifCond .eq 7, 3) := by decide +kernel
theorem d_Ni_readWord_76 : decode b_Ni_readWord 76 = .ok (.iconst 3, 1) := by decide +kernel
theorem d_Ni_readWord_77 : decode b_Ni_readWord 77 = .ok (.goto 4, 3) := by decide +kernel
theorem d_Ni_readWord_80 : decode b_Ni_readWord 80 = .ok (.iconst (-1), 1) := by decide +kernel
theorem d_Ni_readWord_81 : decode b_Ni_readWord 81 = .ok (.ireturn, 1) := by decide +kernel
theorem d_Ni_readWord_82 : decode b_Ni_readWord 82 = .ok (.aload_n 0, 1) := by decide +kernel
theorem d_Ni_readWord_83 : decode b_Ni_readWord 83 = .ok (.ldc 89, 2) := by decide +kernel
theorem d_Ni_readWord_85 : decode b_Ni_readWord 85 = .ok (.invokevirtual 84, 3) := by decide +kernel
theorem d_Ni_readWord_88 : decode b_Ni_readWord 88 = .ok (.ifCond .eq 7, 3) := by decide +kernel
theorem d_Ni_readWord_91 : decode b_Ni_readWord 91 = .ok (.iconst 4, 1) := by decide +kernel
theorem d_Ni_readWord_92 : decode b_Ni_readWord 92 = .ok (.goto 4, 3) := by decide +kernel
theorem d_Ni_readWord_95 : decode b_Ni_readWord 95 = .ok (.iconst (-1), 1) := by decide +kernel
theorem d_Ni_readWord_96 : decode b_Ni_readWord 96 = .ok (.ireturn, 1) := by decide +kernel
theorem d_Ni_readWord_97 : decode b_Ni_readWord 97 = .ok (.goto 5, 3) := by decide +kernel
theorem d_Ni_readWord_100 : decode b_Ni_readWord 100 = .ok (.iconst (-1), 1) := by decide +kernel
theorem d_Ni_readWord_101 : decode b_Ni_readWord 101 = .ok (.ireturn, 1) := by decide +kernel
theorem d_Ni_readWord_102 : decode b_Ni_readWord 102 = .ok (.aload_n 0, 1) := by decide +kernel
theorem d_Ni_readWord_103 : decode b_Ni_readWord 103 = .ok (.aload_n 0, 1) := by decide +kernel
theorem d_Ni_readWord_104 : decode b_Ni_readWord 104 = .ok (.getfield 54, 3) := by decide +kernel
theorem d_Ni_readWord_107 : decode b_Ni_readWord 107 = .ok (.iconst 1, 1) := by decide +kernel
theorem d_Ni_readWord_108 : decode b_Ni_readWord 108 = .ok (.iadd, 1) := by decide +kernel
theorem d_Ni_readWord_109 : decode b_Ni_readWord 109 = .ok (.invokevirtual 78, 3) := by decide +kernel
theorem d_Ni_readWord_112 : decode b_Ni_readWord 112 = .ok (.bipush 97, 2) := by decide +kernel
theorem d_Ni_readWord_114 : decode b_Ni_readWord 114 = .ok (.if_icmp .ne 18, 3) := by decide +kernel
theorem d_Ni_readWord_117 : decode b_Ni_readWord 117 = .ok (.aload_n 0, 1) := by decide +kernel
theorem d_Ni_readWord_118 : decode b_Ni_readWord 118 = .ok (.ldc 90, 2) := by decide +kernel
theorem d_Ni_readWord_120 : decode b_Ni_readWord 120 = .ok (.invokevirtual 84, 3) := by decide +kernel
theorem d_Ni_readWord_123 : decode b_Ni_readWord 123 = .ok (.ifCond .eq 7, 3) := by decide +kernel
theorem d_Ni_readWord_126 : decode b_Ni_readWord 126 = .ok (.iconst 1, 1) := by decide +kernel
theorem d_Ni_readWord_127 : decode b_Ni_readWord 127 = .ok (.goto 4, 3) := by decide +kernel
theorem d_Ni_readWord_130 : decode b_Ni_readWord 130 = .ok (.iconst (-1), 1) := by decide +kernel
theorem d_Ni_readWord_131 : decode b_Ni_readWord 131 = .ok (.ireturn, 1) := by decide +kernel
theorem d_Ni_readWord_132 : decode b_Ni_readWord 132 = .ok (.aload_n 0, 1) := by decide +kernel
theorem d_Ni_readWord_133 : decode b_Ni_readWord 133 = .ok (.ldc 92, 2) := by decide +kernel
theorem d_Ni_readWord_135 : decode b_Ni_readWord 135 = .ok (.invokevirtual 84, 3) := by decide +kernel
theorem d_Ni_readWord_138 : decode b_Ni_readWord 138 = .ok (.ifCond .eq 7, 3) := by decide +kernel
theorem d_Ni_readWord_141 : decode b_Ni_readWord 141 = .ok (.iconst 2, 1) := by decide +kernel
theorem d_Ni_readWord_142 : decode b_Ni_readWord 142 = .ok (.goto 4, 3) := by decide +kernel
theorem d_Ni_readWord_145 : decode b_Ni_readWord 145 = .ok (.iconst (-1), 1) := by decide +kernel
theorem d_Ni_readWord_146 : decode b_Ni_readWord 146 = .ok (.ireturn, 1) := by decide +kernel
def p_Ni_readWord (n : Nat) (tl : Nat)  (I : Nat → Int32) (R : Nat → Nat → Int32) : Option (Int32 × MU) := (p_Ni_signAt n tl (I 4) I R).bind fun x2 => (if x2 = 98 then (p_Ni_signAt n tl ((I 4) + 1) I R).bind fun x4 => (if x4 = 97 then (p_Ni_takeAll n tl 3 I R).bind fun (x14, I12, R13) => (if x14 = 0 then some (-1) else some 1 : Option (Int32)).bind fun x16 => some (x16, I12, R13) else (p_Ni_takeAll n tl 4 I R).bind fun (x8, I6, R7) => (if x8 = 0 then some (-1) else some 2 : Option (Int32)).bind fun x10 => some (x10, I6, R7)) else if x2 = 104 then (p_Ni_takeAll n tl 1 I R).bind fun (x20, I18, R19) => (if x20 = 0 then some (-1) else some 3 : Option (Int32)).bind fun x22 => some (x22, I18, R19) else if x2 = 111 then (p_Ni_takeAll n tl 2 I R).bind fun (x26, I24, R25) => (if x26 = 0 then some (-1) else some 4 : Option (Int32)).bind fun x28 => some (x28, I24, R25) else if x2 = 115 then (p_Ni_takeAll n tl 0 I R).bind fun (x32, I30, R31) => (if x32 = 0 then some (-1) else some 0 : Option (Int32)).bind fun x34 => some (x34, I30, R31) else some ((-1), I, R))
set_option maxHeartbeats 4000000 in
theorem c_Ni_readWord (l : Launch) (n : Nat) (tl : Nat)  (I : Nat → Int32) (R : Nat → Nat → Int32)  : NMi l y_Ni_readWord b_Ni_readWord 1 .int (rL 8) tl (fun ad adK => []) I R (p_Ni_readWord n tl I R) := by
  refine en_ni (by decide) rfl (fun _ _ => Nat.le_of_ble_eq_true rfl) ?_
  intro z hf p e s m args below meth c dC dI ad cI A adK adV ls C hA h hr hlk hl
  have hl : lv_has ls 1 [(0, .ref (ad 0))] := hl
  unfold p_Ni_readWord at hf
  obtain ⟨hx, hb, hml, hown, hT, -⟩ := id C
  refine lv_aload_n hx hb d_Ni_readWord_0 rfl (lv_at hl 0 rfl) ?_
  refine lv_aload_n hx hb d_Ni_readWord_1 rfl (lv_at hl 0 rfl) ?_
  refine ng_4 C h d_Ni_readWord_2 ?_
  obtain ⟨x2, hc1, hf⟩ := op_bind hf
  refine kn_r (rest := []) C h hA (c_Ni_signAt l n tl (I 4) I R) hc1 (cbW 1 hT cd_Ni_signAt rfl rfl ini_Ni ml_Ni_78 hd_Ni_signAt ⟨Nat.le_of_ble_eq_true rfl, Nat.le_of_ble_eq_true rfl⟩) im_Ni_signAt sp_Ni_signAt rfl hl.1 rfl (Nat.le_of_ble_eq_true rfl) d_Ni_readWord_5 ⟨Nat.zero_le _, Nat.zero_le _⟩ (fun H locs h => ?_)
  by_cases hs0 : x2 = 98
  · have hf := op_t hs0 hf
    refine lv_lookup (tgt := 97) (off := 89) hx hb d_Ni_readWord_8 (by decide) (by rw [hs0]; decide) (by decide) ?_
    refine lv_goto (tgt := 102) hx hb d_Ni_readWord_97 (by decide) ?_
    refine lv_aload_n hx hb d_Ni_readWord_102 rfl (lv_at hl 0 rfl) ?_
    refine lv_aload_n hx hb d_Ni_readWord_103 rfl (lv_at hl 0 rfl) ?_
    refine ng_4 C h d_Ni_readWord_104 ?_
    refine lv_iconst (v := 1) hx hb d_Ni_readWord_107 (by decide) ?_
    refine lv_iadd hx hb d_Ni_readWord_108 ?_
    obtain ⟨x4, hc3, hf⟩ := op_bind hf
    refine kn_r (rest := []) C h hA (c_Ni_signAt l n tl ((I 4) + 1) I R) hc3 (cbW 1 hT cd_Ni_signAt rfl rfl ini_Ni ml_Ni_78 hd_Ni_signAt ⟨Nat.le_of_ble_eq_true rfl, Nat.le_of_ble_eq_true rfl⟩) im_Ni_signAt sp_Ni_signAt rfl hl.1 rfl (Nat.le_of_ble_eq_true rfl) d_Ni_readWord_109 ⟨Nat.zero_le _, Nat.zero_le _⟩ (fun H locs h => ?_)
    refine lv_bipush (v := 97) hx hb d_Ni_readWord_112 (by decide) ?_
    refine lv_icmp_ne (tgt := 132) hx hb d_Ni_readWord_114 (by decide) (fun hc => ?_) (fun hc => ?_)
    · have hf := op_f hc hf
      refine lv_aload_n hx hb d_Ni_readWord_132 rfl (lv_at hl 0 rfl) ?_
      refine va_ldcS hx hb hown (tr_Ni_92 C.2.2.2.2.2.2.2) d_Ni_readWord_133 ?_
      obtain ⟨⟨x8, I6, R7⟩, hc5, hf⟩ := op_bind hf
      try dsimp only at hf
      refine kn_i (rest := []) C h hA (c_Ni_takeAll l n tl 4 I R (by decide)) hc5 (cbW 1 hT cd_Ni_takeAll rfl rfl ini_Ni ml_Ni_84 hd_Ni_takeAll ⟨Nat.le_of_ble_eq_true rfl, Nat.le_of_ble_eq_true rfl⟩) im_Ni_takeAll sp_Ni_takeAll rfl hl.1 rfl (Nat.le_of_ble_eq_true rfl) d_Ni_readWord_135 ⟨Nat.zero_le _, Nat.zero_le _⟩ (fun H locs h => ?_)
      obtain ⟨x10, he, hf⟩ := op_bind hf
      have K9 : ∀ (ls : Array Slot), lv_has ls 1 [] → ∀ (H : Heap) (locs : List Loc), nH A s.heap dC dI ad cI tl I6 R7 H locs → W p l e (rL 8) s m args below meth c H locs 0 0 (nQi dC dI ad cI tl A below args s z) (F0 m 146 ls [.int x10]) := by
        intro ls hl H locs h
        exact rt_ni C h hr hlk hf rfl d_Ni_readWord_146
      have hf := he
      refine lv_if_eq (tgt := 145) hx hb d_Ni_readWord_138 (by decide) (fun hc => ?_) (fun hc => ?_)
      · have hf := op_t hc hf
        refine lv_iconst (v := (-1)) hx hb d_Ni_readWord_145 (by decide) ?_
        obtain rfl := op_i1 hf
        exact K9 ls (lv_sub hl [] rfl) H locs h
      · have hf := op_f hc hf
        refine lv_iconst (v := 2) hx hb d_Ni_readWord_141 (by decide) ?_
        refine lv_goto (tgt := 146) hx hb d_Ni_readWord_142 (by decide) ?_
        obtain rfl := op_i1 hf
        exact K9 ls (lv_sub hl [] rfl) H locs h
    · have hf := op_t hc hf
      refine lv_aload_n hx hb d_Ni_readWord_117 rfl (lv_at hl 0 rfl) ?_
      refine va_ldcS hx hb hown (tr_Ni_90 C.2.2.2.2.2.2.2) d_Ni_readWord_118 ?_
      obtain ⟨⟨x14, I12, R13⟩, hc11, hf⟩ := op_bind hf
      try dsimp only at hf
      refine kn_i (rest := []) C h hA (c_Ni_takeAll l n tl 3 I R (by decide)) hc11 (cbW 1 hT cd_Ni_takeAll rfl rfl ini_Ni ml_Ni_84 hd_Ni_takeAll ⟨Nat.le_of_ble_eq_true rfl, Nat.le_of_ble_eq_true rfl⟩) im_Ni_takeAll sp_Ni_takeAll rfl hl.1 rfl (Nat.le_of_ble_eq_true rfl) d_Ni_readWord_120 ⟨Nat.zero_le _, Nat.zero_le _⟩ (fun H locs h => ?_)
      obtain ⟨x16, he, hf⟩ := op_bind hf
      have K15 : ∀ (ls : Array Slot), lv_has ls 1 [] → ∀ (H : Heap) (locs : List Loc), nH A s.heap dC dI ad cI tl I12 R13 H locs → W p l e (rL 8) s m args below meth c H locs 0 0 (nQi dC dI ad cI tl A below args s z) (F0 m 131 ls [.int x16]) := by
        intro ls hl H locs h
        exact rt_ni C h hr hlk hf rfl d_Ni_readWord_131
      have hf := he
      refine lv_if_eq (tgt := 130) hx hb d_Ni_readWord_123 (by decide) (fun hc => ?_) (fun hc => ?_)
      · have hf := op_t hc hf
        refine lv_iconst (v := (-1)) hx hb d_Ni_readWord_130 (by decide) ?_
        obtain rfl := op_i1 hf
        exact K15 ls (lv_sub hl [] rfl) H locs h
      · have hf := op_f hc hf
        refine lv_iconst (v := 1) hx hb d_Ni_readWord_126 (by decide) ?_
        refine lv_goto (tgt := 131) hx hb d_Ni_readWord_127 (by decide) ?_
        obtain rfl := op_i1 hf
        exact K15 ls (lv_sub hl [] rfl) H locs h
  · have hf := op_f hs0 hf
    by_cases hs1 : x2 = 104
    · have hf := op_t hs1 hf
      refine lv_lookup (tgt := 67) (off := 59) hx hb d_Ni_readWord_8 (by decide) (by rw [hs1]; decide) (by decide) ?_
      refine lv_aload_n hx hb d_Ni_readWord_67 rfl (lv_at hl 0 rfl) ?_
      refine va_ldcS hx hb hown (tr_Ni_88 C.2.2.2.2.2.2.2) d_Ni_readWord_68 ?_
      obtain ⟨⟨x20, I18, R19⟩, hc17, hf⟩ := op_bind hf
      try dsimp only at hf
      refine kn_i (rest := []) C h hA (c_Ni_takeAll l n tl 1 I R (by decide)) hc17 (cbW 1 hT cd_Ni_takeAll rfl rfl ini_Ni ml_Ni_84 hd_Ni_takeAll ⟨Nat.le_of_ble_eq_true rfl, Nat.le_of_ble_eq_true rfl⟩) im_Ni_takeAll sp_Ni_takeAll rfl hl.1 rfl (Nat.le_of_ble_eq_true rfl) d_Ni_readWord_70 ⟨Nat.zero_le _, Nat.zero_le _⟩ (fun H locs h => ?_)
      obtain ⟨x22, he, hf⟩ := op_bind hf
      have K21 : ∀ (ls : Array Slot), lv_has ls 1 [] → ∀ (H : Heap) (locs : List Loc), nH A s.heap dC dI ad cI tl I18 R19 H locs → W p l e (rL 8) s m args below meth c H locs 0 0 (nQi dC dI ad cI tl A below args s z) (F0 m 81 ls [.int x22]) := by
        intro ls hl H locs h
        exact rt_ni C h hr hlk hf rfl d_Ni_readWord_81
      have hf := he
      refine lv_if_eq (tgt := 80) hx hb d_Ni_readWord_73 (by decide) (fun hc => ?_) (fun hc => ?_)
      · have hf := op_t hc hf
        refine lv_iconst (v := (-1)) hx hb d_Ni_readWord_80 (by decide) ?_
        obtain rfl := op_i1 hf
        exact K21 ls (lv_sub hl [] rfl) H locs h
      · have hf := op_f hc hf
        refine lv_iconst (v := 3) hx hb d_Ni_readWord_76 (by decide) ?_
        refine lv_goto (tgt := 81) hx hb d_Ni_readWord_77 (by decide) ?_
        obtain rfl := op_i1 hf
        exact K21 ls (lv_sub hl [] rfl) H locs h
    · have hf := op_f hs1 hf
      by_cases hs2 : x2 = 111
      · have hf := op_t hs2 hf
        refine lv_lookup (tgt := 82) (off := 74) hx hb d_Ni_readWord_8 (by decide) (by rw [hs2]; decide) (by decide) ?_
        refine lv_aload_n hx hb d_Ni_readWord_82 rfl (lv_at hl 0 rfl) ?_
        refine va_ldcS hx hb hown (tr_Ni_89 C.2.2.2.2.2.2.2) d_Ni_readWord_83 ?_
        obtain ⟨⟨x26, I24, R25⟩, hc23, hf⟩ := op_bind hf
        try dsimp only at hf
        refine kn_i (rest := []) C h hA (c_Ni_takeAll l n tl 2 I R (by decide)) hc23 (cbW 1 hT cd_Ni_takeAll rfl rfl ini_Ni ml_Ni_84 hd_Ni_takeAll ⟨Nat.le_of_ble_eq_true rfl, Nat.le_of_ble_eq_true rfl⟩) im_Ni_takeAll sp_Ni_takeAll rfl hl.1 rfl (Nat.le_of_ble_eq_true rfl) d_Ni_readWord_85 ⟨Nat.zero_le _, Nat.zero_le _⟩ (fun H locs h => ?_)
        obtain ⟨x28, he, hf⟩ := op_bind hf
        have K27 : ∀ (ls : Array Slot), lv_has ls 1 [] → ∀ (H : Heap) (locs : List Loc), nH A s.heap dC dI ad cI tl I24 R25 H locs → W p l e (rL 8) s m args below meth c H locs 0 0 (nQi dC dI ad cI tl A below args s z) (F0 m 96 ls [.int x28]) := by
          intro ls hl H locs h
          exact rt_ni C h hr hlk hf rfl d_Ni_readWord_96
        have hf := he
        refine lv_if_eq (tgt := 95) hx hb d_Ni_readWord_88 (by decide) (fun hc => ?_) (fun hc => ?_)
        · have hf := op_t hc hf
          refine lv_iconst (v := (-1)) hx hb d_Ni_readWord_95 (by decide) ?_
          obtain rfl := op_i1 hf
          exact K27 ls (lv_sub hl [] rfl) H locs h
        · have hf := op_f hc hf
          refine lv_iconst (v := 4) hx hb d_Ni_readWord_91 (by decide) ?_
          refine lv_goto (tgt := 96) hx hb d_Ni_readWord_92 (by decide) ?_
          obtain rfl := op_i1 hf
          exact K27 ls (lv_sub hl [] rfl) H locs h
      · have hf := op_f hs2 hf
        by_cases hs3 : x2 = 115
        · have hf := op_t hs3 hf
          refine lv_lookup (tgt := 52) (off := 44) hx hb d_Ni_readWord_8 (by decide) (by rw [hs3]; decide) (by decide) ?_
          refine lv_aload_n hx hb d_Ni_readWord_52 rfl (lv_at hl 0 rfl) ?_
          refine va_ldcS hx hb hown (tr_Ni_82 C.2.2.2.2.2.2.2) d_Ni_readWord_53 ?_
          obtain ⟨⟨x32, I30, R31⟩, hc29, hf⟩ := op_bind hf
          try dsimp only at hf
          refine kn_i (rest := []) C h hA (c_Ni_takeAll l n tl 0 I R (by decide)) hc29 (cbW 1 hT cd_Ni_takeAll rfl rfl ini_Ni ml_Ni_84 hd_Ni_takeAll ⟨Nat.le_of_ble_eq_true rfl, Nat.le_of_ble_eq_true rfl⟩) im_Ni_takeAll sp_Ni_takeAll rfl hl.1 rfl (Nat.le_of_ble_eq_true rfl) d_Ni_readWord_55 ⟨Nat.zero_le _, Nat.zero_le _⟩ (fun H locs h => ?_)
          obtain ⟨x34, he, hf⟩ := op_bind hf
          have K33 : ∀ (ls : Array Slot), lv_has ls 1 [] → ∀ (H : Heap) (locs : List Loc), nH A s.heap dC dI ad cI tl I30 R31 H locs → W p l e (rL 8) s m args below meth c H locs 0 0 (nQi dC dI ad cI tl A below args s z) (F0 m 66 ls [.int x34]) := by
            intro ls hl H locs h
            exact rt_ni C h hr hlk hf rfl d_Ni_readWord_66
          have hf := he
          refine lv_if_eq (tgt := 65) hx hb d_Ni_readWord_58 (by decide) (fun hc => ?_) (fun hc => ?_)
          · have hf := op_t hc hf
            refine lv_iconst (v := (-1)) hx hb d_Ni_readWord_65 (by decide) ?_
            obtain rfl := op_i1 hf
            exact K33 ls (lv_sub hl [] rfl) H locs h
          · have hf := op_f hc hf
            refine lv_iconst (v := 0) hx hb d_Ni_readWord_61 (by decide) ?_
            refine lv_goto (tgt := 66) hx hb d_Ni_readWord_62 (by decide) ?_
            obtain rfl := op_i1 hf
            exact K33 ls (lv_sub hl [] rfl) H locs h
        · have hf := op_f hs3 hf
          have et0 := tn_ne2 (v := 98) (by decide) hs0
          have et1 := tn_ne2 (v := 104) (by decide) hs1
          have et2 := tn_ne2 (v := 111) (by decide) hs2
          have et3 := tn_ne2 (v := 115) (by decide) hs3
          refine lv_lookup (tgt := 100) (off := 92) hx hb d_Ni_readWord_8 (by decide) (by simp [Op.lookupswitch.offset, et0, et1, et2, et3]) (by decide) ?_
          refine lv_iconst (v := (-1)) hx hb d_Ni_readWord_100 (by decide) ?_
          exact rt_ni C h hr hlk hf rfl d_Ni_readWord_101
theorem hd_Ni_indexIn : y_Ni_indexIn.cls ≠ "java/lang/invoke/MethodHandle" ∧ y_Ni_indexIn.cls ≠ "java/lang/invoke/VarHandle" ∧ (parseMethodDescriptor y_Ni_indexIn.desc).map (fun d => d.parameters.length) = some 1 := by decide +kernel
theorem d_Ni_indexIn_0 : decode b_Ni_indexIn 0 = .ok (.aload_n 0, 1) := by decide +kernel
theorem d_Ni_indexIn_1 : decode b_Ni_indexIn 1 = .ok (.getfield 54, 3) := by decide +kernel
theorem d_Ni_indexIn_4 : decode b_Ni_indexIn 4 = .ok (.aload_n 0, 1) := by decide +kernel
theorem d_Ni_indexIn_5 : decode b_Ni_indexIn 5 = .ok (.getfield 38, 3) := by decide +kernel
theorem d_Ni_indexIn_8 : decode b_Ni_indexIn 8 = .ok (.arraylength, 1) := by decide +kernel
theorem d_Ni_indexIn_9 : decode b_Ni_indexIn 9 = .ok (.if_icmp .ge 20, 3) := by decide +kernel
theorem d_Ni_indexIn_12 : decode b_Ni_indexIn 12 = .ok (.aload_n 1, 1) := by decide +kernel
theorem d_Ni_indexIn_13 : decode b_Ni_indexIn 13 = .ok (.aload_n 0, 1) := by decide +kernel
theorem d_Ni_indexIn_14 : decode b_Ni_indexIn 14 = .ok (.getfield 38, 3) := by decide +kernel
theorem d_Ni_indexIn_17 : decode b_Ni_indexIn 17 = .ok (.aload_n 0, 1) := by decide +kernel
theorem d_Ni_indexIn_18 : decode b_Ni_indexIn 18 = .ok (.getfield 54, 3) := by decide +kernel
theorem d_Ni_indexIn_21 : decode b_Ni_indexIn 21 = .ok (.iaload, 1) := by decide +kernel
theorem d_Ni_indexIn_22 : decode b_Ni_indexIn 22 = .ok (.i2c, 1) := by decide +kernel
theorem d_Ni_indexIn_23 : decode b_Ni_indexIn 23 = .ok (.invokevirtual 124, 3) := by decide +kernel
theorem d_Ni_indexIn_26 : decode b_Ni_indexIn 26 = .ok (.goto 4, 3) := by decide +kernel
theorem d_Ni_indexIn_29 : decode b_Ni_indexIn 29 = .ok (.iconst (-1), 1) := by decide +kernel
theorem d_Ni_indexIn_30 : decode b_Ni_indexIn 30 = .ok (.ireturn, 1) := by decide +kernel
def p_Ni_indexIn (n : Nat) (tl : Nat) (v1 : Nat) (I : Nat → Int32) (R : Nat → Nat → Int32) : Option (Int32) := (if (nI tl) ≤ (I 4) then some (-1) else if ix (I 4) tl then (p_String_indexOf n v1 (((R 3 (I 4).toNatClampNeg).toUInt32 % 65536).toInt32)).bind fun x5 => some x5 else none : Option (Int32)).bind fun x2 => some x2
set_option maxHeartbeats 4000000 in
theorem c_Ni_indexIn (l : Launch) (n : Nat) (tl : Nat) (v1 : Nat) (I : Nat → Int32) (R : Nat → Nat → Int32) (hv1 : v1 < 12) : NMi l y_Ni_indexIn b_Ni_indexIn 2 .int (rL 5) tl (fun ad adK => [.ref (adK v1)]) I R ((p_Ni_indexIn n tl v1 I R).map fun r => (r, I, R)) := by
  refine en_ni (by decide) rfl (fun _ _ => Nat.le_of_ble_eq_true rfl) ?_
  intro z hz p e s m args below meth c dC dI ad cI A adK adV ls C hA h hr hlk hl
  have hl : lv_has ls 2 [(0, .ref (ad 0)), (1, .ref (adK v1))] := hl
  obtain ⟨z, hf, rfl⟩ := op_map hz
  unfold p_Ni_indexIn at hf
  obtain ⟨hx, hb, hml, hown, hT, -⟩ := id C
  refine lv_aload_n hx hb d_Ni_indexIn_0 rfl (lv_at hl 0 rfl) ?_
  refine ng_4 C h d_Ni_indexIn_1 ?_
  refine lv_aload_n hx hb d_Ni_indexIn_4 rfl (lv_at hl 0 rfl) ?_
  refine ng_3 C h d_Ni_indexIn_5 ?_
  refine nl_3 C h d_Ni_indexIn_8 ?_
  obtain ⟨x2, he, hf⟩ := op_bind hf
  have K1 : ∀ (ls : Array Slot), lv_has ls 2 [] → ∀ (H : Heap) (locs : List Loc), nH A s.heap dC dI ad cI tl I R H locs → W p l e (rL 5) s m args below meth c H locs 0 0 (nQi dC dI ad cI tl A below args s (z, I, R)) (F0 m 30 ls [.int x2]) := by
    intro ls hl H locs h
    exact rt_nr C h hr hlk hf rfl d_Ni_indexIn_30
  have hf := he
  refine lv_icmp_ge (tgt := 29) hx hb d_Ni_indexIn_9 (by decide) (fun hc => ?_) (fun hc => ?_)
  · have hf := op_t hc hf
    refine lv_iconst (v := (-1)) hx hb d_Ni_indexIn_29 (by decide) ?_
    obtain rfl := op_i1 hf
    exact K1 ls (lv_sub hl [] rfl) s.heap [] h
  · have hf := op_f hc hf
    refine lv_aload_n hx hb d_Ni_indexIn_12 rfl (lv_at hl 1 rfl) ?_
    refine lv_aload_n hx hb d_Ni_indexIn_13 rfl (lv_at hl 0 rfl) ?_
    refine ng_3 C h d_Ni_indexIn_14 ?_
    refine lv_aload_n hx hb d_Ni_indexIn_17 rfl (lv_at hl 0 rfl) ?_
    refine ng_4 C h d_Ni_indexIn_18 ?_
    obtain ⟨h3, hf⟩ := op_if hf
    refine na_3 C h rfl h3 d_Ni_indexIn_21 ?_
    refine lv_i2c hx hb d_Ni_indexIn_22 rfl ?_
    obtain ⟨x5, hc4, hf⟩ := op_bind hf
    refine kt_v (i := v1) (rest := []) hx hb hml hown hT (nT C h) hv1 (c_String_indexOf l n adK adV v1 (((R 3 (I 4).toNatClampNeg).toUInt32 % 65536).toInt32) hv1 _ hc4) (cbW 1 hT cd_String_indexOf rfl rfl ini_String ml_Ni_124 hd_String_indexOf ⟨Nat.le_of_ble_eq_true rfl, Nat.le_of_ble_eq_true rfl⟩) im_String_indexOf se_String_String_indexOf__String_indexOf rfl hl.1 rfl (Nat.le_of_ble_eq_true rfl) d_Ni_indexIn_23 ⟨Nat.zero_le _, Nat.zero_le _⟩ ?_
    refine lv_goto (tgt := 30) hx hb d_Ni_indexIn_26 (by decide) ?_
    obtain rfl := op_i1 hf
    exact K1 ls (lv_sub hl [] rfl) s.heap [] h
theorem hd_Ni_readTest : y_Ni_readTest.cls ≠ "java/lang/invoke/MethodHandle" ∧ y_Ni_readTest.cls ≠ "java/lang/invoke/VarHandle" ∧ (parseMethodDescriptor y_Ni_readTest.desc).map (fun d => d.parameters.length) = some 0 := by decide +kernel
theorem d_Ni_readTest_0 : decode b_Ni_readTest 0 = .ok (.aload_n 0, 1) := by decide +kernel
theorem d_Ni_readTest_1 : decode b_Ni_readTest 1 = .ok (.ldc 116, 2) := by decide +kernel
theorem d_Ni_readTest_3 : decode b_Ni_readTest 3 = .ok (.invokevirtual 118, 3) := by decide +kernel
theorem d_Ni_readTest_6 : decode b_Ni_readTest 6 = .ok (.istore_n 1, 1) := by decide +kernel
theorem d_Ni_readTest_7 : decode b_Ni_readTest 7 = .ok (.iload_n 1, 1) := by decide +kernel
theorem d_Ni_readTest_8 : decode b_Ni_readTest 8 = .ok (.ifCond .ge 5, 3) := by decide +kernel
theorem d_Ni_readTest_11 : decode b_Ni_readTest 11 = .ok (.iconst 0, 1) := by decide +kernel
theorem d_Ni_readTest_12 : decode b_Ni_readTest 12 = .ok (.ireturn, 1) := by decide +kernel
theorem d_Ni_readTest_13 : decode b_Ni_readTest 13 = .ok (.aload_n 0, 1) := by decide +kernel
theorem d_Ni_readTest_14 : decode b_Ni_readTest 14 = .ok (.dup, 1) := by decide +kernel
theorem d_Ni_readTest_15 : decode b_Ni_readTest 15 = .ok (.getfield 54, 3) := by decide +kernel
theorem d_Ni_readTest_18 : decode b_Ni_readTest 18 = .ok (.iconst 1, 1) := by decide +kernel
theorem d_Ni_readTest_19 : decode b_Ni_readTest 19 = .ok (.iadd, 1) := by decide +kernel
theorem d_Ni_readTest_20 : decode b_Ni_readTest 20 = .ok (.putfield 54, 3) := by decide +kernel
theorem d_Ni_readTest_23 : decode b_Ni_readTest 23 = .ok (.aload_n 0, 1) := by decide +kernel
theorem d_Ni_readTest_24 : decode b_Ni_readTest 24 = .ok (.ldc 122, 2) := by decide +kernel
theorem d_Ni_readTest_26 : decode b_Ni_readTest 26 = .ok (.invokevirtual 118, 3) := by decide +kernel
theorem d_Ni_readTest_29 : decode b_Ni_readTest 29 = .ok (.istore_n 2, 1) := by decide +kernel
theorem d_Ni_readTest_30 : decode b_Ni_readTest 30 = .ok (.iload_n 2, 1) := by decide +kernel
theorem d_Ni_readTest_31 : decode b_Ni_readTest 31 = .ok (.ifCond .ge 5, 3) := by decide +kernel
theorem d_Ni_readTest_34 : decode b_Ni_readTest 34 = .ok (.iconst 0, 1) := by decide +kernel
theorem d_Ni_readTest_35 : decode b_Ni_readTest 35 = .ok (.ireturn, 1) := by decide +kernel
theorem d_Ni_readTest_36 : decode b_Ni_readTest 36 = .ok (.aload_n 0, 1) := by decide +kernel
theorem d_Ni_readTest_37 : decode b_Ni_readTest 37 = .ok (.dup, 1) := by decide +kernel
theorem d_Ni_readTest_38 : decode b_Ni_readTest 38 = .ok (.getfield 54, 3) := by decide +kernel
theorem d_Ni_readTest_41 : decode b_Ni_readTest 41 = .ok (.iconst 1, 1) := by decide +kernel
theorem d_Ni_readTest_42 : decode b_Ni_readTest 42 = .ok (.iadd, 1) := by decide +kernel
theorem d_Ni_readTest_43 : decode b_Ni_readTest 43 = .ok (.putfield 54, 3) := by decide +kernel
theorem d_Ni_readTest_46 : decode b_Ni_readTest 46 = .ok (.aload_n 0, 1) := by decide +kernel
theorem d_Ni_readTest_47 : decode b_Ni_readTest 47 = .ok (.invokevirtual 61, 3) := by decide +kernel
theorem d_Ni_readTest_50 : decode b_Ni_readTest 50 = .ok (.istore_n 3, 1) := by decide +kernel
theorem d_Ni_readTest_51 : decode b_Ni_readTest 51 = .ok (.iload_n 3, 1) := by decide +kernel
theorem d_Ni_readTest_52 : decode b_Ni_readTest 52 = .ok (.ifCond .ge 5, 3) := by decide +kernel
theorem d_Ni_readTest_55 : decode b_Ni_readTest 55 = .ok (.iconst 0, 1) := by decide +kernel
theorem d_Ni_readTest_56 : decode b_Ni_readTest 56 = .ok (.ireturn, 1) := by decide +kernel
theorem d_Ni_readTest_57 : decode b_Ni_readTest 57 = .ok (.aload_n 0, 1) := by decide +kernel
theorem d_Ni_readTest_58 : decode b_Ni_readTest 58 = .ok (.iload_n 1, 1) := by decide +kernel
theorem d_Ni_readTest_59 : decode b_Ni_readTest 59 = .ok (.iconst 3, 1) := by decide +kernel
theorem d_Ni_readTest_60 : decode b_Ni_readTest 60 = .ok (.imul, 1) := by decide +kernel
theorem d_Ni_readTest_61 : decode b_Ni_readTest 61 = .ok (.iload_n 2, 1) := by decide +kernel
theorem d_Ni_readTest_62 : decode b_Ni_readTest 62 = .ok (.iadd, 1) := by decide +kernel
theorem d_Ni_readTest_63 : decode b_Ni_readTest 63 = .ok (.bipush 100, 2) := by decide +kernel
theorem d_Ni_readTest_65 : decode b_Ni_readTest 65 = .ok (.imul, 1) := by decide +kernel
theorem d_Ni_readTest_66 : decode b_Ni_readTest 66 = .ok (.iload_n 3, 1) := by decide +kernel
theorem d_Ni_readTest_67 : decode b_Ni_readTest 67 = .ok (.iadd, 1) := by decide +kernel
theorem d_Ni_readTest_68 : decode b_Ni_readTest 68 = .ok (.invokevirtual 105, 3) := by decide +kernel
theorem d_Ni_readTest_71 : decode b_Ni_readTest 71 = .ok (.iconst 1, 1) := by decide +kernel
theorem d_Ni_readTest_72 : decode b_Ni_readTest 72 = .ok (.ireturn, 1) := by decide +kernel
def p_Ni_readTest (n : Nat) (tl : Nat)  (I : Nat → Int32) (R : Nat → Nat → Int32) : Option (Int32 × MU) := (p_Ni_indexIn n tl 5 I R).bind fun x2 => (if 0 ≤ x2 then (p_Ni_indexIn n tl 6 (upd I 4 ((I 4) + 1)) R).bind fun x4 => (if 0 ≤ x4 then (p_Ni_readNumber n tl ((upd (upd I 4 ((I 4) + 1)) 4 (((upd I 4 ((I 4) + 1)) 4) + 1))) R).bind fun (x8, I6, R7) => (if 0 ≤ x8 then (p_Ni_addCode n tl ((((x2 * 3) + x4) * 100) + x8) I6 R7).bind fun (I10, R11) => some (1, I10, R11) else some (0, I6, R7)) else some (0, (upd I 4 ((I 4) + 1)), R)) else some (0, I, R))
set_option maxHeartbeats 4000000 in
theorem c_Ni_readTest (l : Launch) (n : Nat) (tl : Nat)  (I : Nat → Int32) (R : Nat → Nat → Int32)  : NMi l y_Ni_readTest b_Ni_readTest 4 .boolean (rL 6) tl (fun ad adK => []) I R (p_Ni_readTest n tl I R) := by
  refine en_ni (by decide) rfl (fun _ _ => Nat.le_of_ble_eq_true rfl) ?_
  intro z hf p e s m args below meth c dC dI ad cI A adK adV ls C hA h hr hlk hl
  have hl : lv_has ls 4 [(0, .ref (ad 0))] := hl
  unfold p_Ni_readTest at hf
  obtain ⟨hx, hb, hml, hown, hT, -⟩ := id C
  refine lv_aload_n hx hb d_Ni_readTest_0 rfl (lv_at hl 0 rfl) ?_
  refine va_ldcS hx hb hown (tr_Ni_116 C.2.2.2.2.2.2.2) d_Ni_readTest_1 ?_
  obtain ⟨x2, hc1, hf⟩ := op_bind hf
  refine kn_r (rest := []) C h hA (c_Ni_indexIn l n tl 5 I R (by decide)) hc1 (cbW 1 hT cd_Ni_indexIn rfl rfl ini_Ni ml_Ni_118 hd_Ni_indexIn ⟨Nat.le_of_ble_eq_true rfl, Nat.le_of_ble_eq_true rfl⟩) im_Ni_indexIn sp_Ni_indexIn rfl hl.1 rfl (Nat.le_of_ble_eq_true rfl) d_Ni_readTest_3 ⟨Nat.zero_le _, Nat.zero_le _⟩ (fun H locs h => ?_)
  refine lv_istore_n (lv' := [(1, .int x2), (0, .ref (ad 0))]) hx hb d_Ni_readTest_6 rfl hl (by decide) rfl (fun ls hl => ?_)
  refine lv_iload_n hx hb d_Ni_readTest_7 rfl (lv_at hl 0 rfl) ?_
  refine lv_if_ge (tgt := 13) hx hb d_Ni_readTest_8 (by decide) (fun hc => ?_) (fun hc => ?_)
  · have hf := op_t hc hf
    refine lv_aload_n hx hb d_Ni_readTest_13 rfl (lv_at hl 1 rfl) ?_
    refine lv_dup hx hb d_Ni_readTest_14 rfl ?_
    refine ng_4 C h d_Ni_readTest_15 ?_
    refine lv_iconst (v := 1) hx hb d_Ni_readTest_18 (by decide) ?_
    refine lv_iadd hx hb d_Ni_readTest_19 ?_
    refine np_4 C h d_Ni_readTest_20 (fun H locs h => ?_)
    refine lv_aload_n hx hb d_Ni_readTest_23 rfl (lv_at hl 1 rfl) ?_
    refine va_ldcS hx hb hown (tr_Ni_122 C.2.2.2.2.2.2.2) d_Ni_readTest_24 ?_
    obtain ⟨x4, hc3, hf⟩ := op_bind hf
    refine kn_r (rest := []) C h hA (c_Ni_indexIn l n tl 6 (upd I 4 ((I 4) + 1)) R (by decide)) hc3 (cbW 1 hT cd_Ni_indexIn rfl rfl ini_Ni ml_Ni_118 hd_Ni_indexIn ⟨Nat.le_of_ble_eq_true rfl, Nat.le_of_ble_eq_true rfl⟩) im_Ni_indexIn sp_Ni_indexIn rfl hl.1 rfl (Nat.le_of_ble_eq_true rfl) d_Ni_readTest_26 ⟨Nat.zero_le _, Nat.zero_le _⟩ (fun H locs h => ?_)
    refine lv_istore_n (lv' := [(2, .int x4), (1, .int x2), (0, .ref (ad 0))]) hx hb d_Ni_readTest_29 rfl hl (by decide) rfl (fun ls hl => ?_)
    refine lv_iload_n hx hb d_Ni_readTest_30 rfl (lv_at hl 0 rfl) ?_
    refine lv_if_ge (tgt := 36) hx hb d_Ni_readTest_31 (by decide) (fun hc => ?_) (fun hc => ?_)
    · have hf := op_t hc hf
      refine lv_aload_n hx hb d_Ni_readTest_36 rfl (lv_at hl 2 rfl) ?_
      refine lv_dup hx hb d_Ni_readTest_37 rfl ?_
      refine ng_4 C h d_Ni_readTest_38 ?_
      refine lv_iconst (v := 1) hx hb d_Ni_readTest_41 (by decide) ?_
      refine lv_iadd hx hb d_Ni_readTest_42 ?_
      refine np_4 C h d_Ni_readTest_43 (fun H locs h => ?_)
      refine lv_aload_n hx hb d_Ni_readTest_46 rfl (lv_at hl 2 rfl) ?_
      obtain ⟨⟨x8, I6, R7⟩, hc5, hf⟩ := op_bind hf
      try dsimp only at hf
      refine kn_i (rest := []) C h hA (c_Ni_readNumber l n tl ((upd (upd I 4 ((I 4) + 1)) 4 (((upd I 4 ((I 4) + 1)) 4) + 1))) R) hc5 (cbW 0 hT cd_Ni_readNumber rfl rfl ini_Ni ml_Ni_61 hd_Ni_readNumber ⟨Nat.le_of_ble_eq_true rfl, Nat.le_of_ble_eq_true rfl⟩) im_Ni_readNumber sp_Ni_readNumber rfl hl.1 rfl (Nat.le_of_ble_eq_true rfl) d_Ni_readTest_47 ⟨Nat.zero_le _, Nat.zero_le _⟩ (fun H locs h => ?_)
      refine lv_istore_n (lv' := [(3, .int x8), (2, .int x4), (1, .int x2), (0, .ref (ad 0))]) hx hb d_Ni_readTest_50 rfl hl (by decide) rfl (fun ls hl => ?_)
      refine lv_iload_n hx hb d_Ni_readTest_51 rfl (lv_at hl 0 rfl) ?_
      refine lv_if_ge (tgt := 57) hx hb d_Ni_readTest_52 (by decide) (fun hc => ?_) (fun hc => ?_)
      · have hf := op_t hc hf
        refine lv_aload_n hx hb d_Ni_readTest_57 rfl (lv_at hl 3 rfl) ?_
        refine lv_iload_n hx hb d_Ni_readTest_58 rfl (lv_at hl 2 rfl) ?_
        refine lv_iconst (v := 3) hx hb d_Ni_readTest_59 (by decide) ?_
        refine lv_imul hx hb d_Ni_readTest_60 ?_
        refine lv_iload_n hx hb d_Ni_readTest_61 rfl (lv_at hl 1 rfl) ?_
        refine lv_iadd hx hb d_Ni_readTest_62 ?_
        refine lv_bipush (v := 100) hx hb d_Ni_readTest_63 (by decide) ?_
        refine lv_imul hx hb d_Ni_readTest_65 ?_
        refine lv_iload_n hx hb d_Ni_readTest_66 rfl (lv_at hl 0 rfl) ?_
        refine lv_iadd hx hb d_Ni_readTest_67 ?_
        obtain ⟨⟨I10, R11⟩, hc9, hf⟩ := op_bind hf
        try dsimp only at hf
        refine kn_v (rest := []) C h hA (c_Ni_addCode l n tl ((((x2 * 3) + x4) * 100) + x8) I6 R7) hc9 (cbW 1 hT cd_Ni_addCode rfl rfl ini_Ni ml_Ni_105 hd_Ni_addCode ⟨Nat.le_of_ble_eq_true rfl, Nat.le_of_ble_eq_true rfl⟩) im_Ni_addCode sp_Ni_addCode rfl hl.1 rfl (Nat.le_of_ble_eq_true rfl) d_Ni_readTest_68 ⟨Nat.zero_le _, Nat.zero_le _⟩ (fun H locs h => ?_)
        refine lv_iconst (v := 1) hx hb d_Ni_readTest_71 (by decide) ?_
        exact rt_ni C h hr hlk hf (by decide) d_Ni_readTest_72
      · have hf := op_f hc hf
        refine lv_iconst (v := 0) hx hb d_Ni_readTest_55 (by decide) ?_
        exact rt_ni C h hr hlk hf (by decide) d_Ni_readTest_56
    · have hf := op_f hc hf
      refine lv_iconst (v := 0) hx hb d_Ni_readTest_34 (by decide) ?_
      exact rt_ni C h hr hlk hf (by decide) d_Ni_readTest_35
  · have hf := op_f hc hf
    refine lv_iconst (v := 0) hx hb d_Ni_readTest_11 (by decide) ?_
    exact rt_ni C h hr hlk hf (by decide) d_Ni_readTest_12
