theorem rL_ok {d d' k : Nat} (h : d < d') (hk : k ≤ 21) : (rL d).frames + 1 ≤ (rL d').frames ∧ 8 + (k + 11) + (rL d).locals ≤ (rL d').locals := by simp only [rL]; omega
theorem rL_c {c d k j : Nat} (hd : 10 ≤ d) (hc : c ≤ 10) (hk : k ≤ 21) : (rL c).frames + 1 ≤ (rL (d + (j + 1))).frames ∧ 8 + (k + 11) + (rL c).locals ≤ (rL (d + (j + 1))).locals := by simp only [rL]; omega
theorem hd_Md_factor : y_Md_factor.cls ≠ "java/lang/invoke/MethodHandle" ∧ y_Md_factor.cls ≠ "java/lang/invoke/VarHandle" ∧ (parseMethodDescriptor y_Md_factor.desc).map (fun d => d.parameters.length) = some 0 := by decide +kernel
theorem hd_Md_spells : y_Md_spells.cls ≠ "java/lang/invoke/MethodHandle" ∧ y_Md_spells.cls ≠ "java/lang/invoke/VarHandle" ∧ (parseMethodDescriptor y_Md_spells.desc).map (fun d => d.parameters.length) = some 1 := by decide +kernel
theorem d_Md_spells_0 : decode b_Md_spells 0 = .ok (.iconst 0, 1) := by decide +kernel
theorem d_Md_spells_1 : decode b_Md_spells 1 = .ok (.istore_n 2, 1) := by decide +kernel
theorem d_Md_spells_2 : decode b_Md_spells 2 = .ok (.iload_n 2, 1) := by decide +kernel
theorem d_Md_spells_3 : decode b_Md_spells 3 = .ok (.aload_n 1, 1) := by decide +kernel
theorem d_Md_spells_4 : decode b_Md_spells 4 = .ok (.invokevirtual 65, 3) := by decide +kernel
theorem d_Md_spells_7 : decode b_Md_spells 7 = .ok (.if_icmp .ge 18, 3) := by decide +kernel
theorem d_Md_spells_10 : decode b_Md_spells 10 = .ok (.aload_n 0, 1) := by decide +kernel
theorem d_Md_spells_11 : decode b_Md_spells 11 = .ok (.aload_n 1, 1) := by decide +kernel
theorem d_Md_spells_12 : decode b_Md_spells 12 = .ok (.iload_n 2, 1) := by decide +kernel
theorem d_Md_spells_13 : decode b_Md_spells 13 = .ok (.invokevirtual 70, 3) := by decide +kernel
theorem d_Md_spells_16 : decode b_Md_spells 16 = .ok (.invokevirtual 74, 3) := by decide +kernel
theorem d_Md_spells_19 : decode b_Md_spells 19 = .ok (.iinc 2 1, 3) := by decide +kernel
theorem d_Md_spells_22 : decode b_Md_spells 22 = .ok (.goto (-20), 3) := by decide +kernel
theorem d_Md_spells_25 : decode b_Md_spells 25 = .ok (.return_, 1) := by decide +kernel
def l_Md_spells_2 (n : Nat) (v1 : Nat)   : Nat → Int32 → (Nat → Int32) → (Nat → Nat → Int32) → Option ((Nat → Int32) × (Nat → Nat → Int32))
  | 0, _, _, _ => none
  | k + 1, v2, I, R => (p_String_length n v1).bind fun x2 => (if x2 ≤ v2 then some (I, R) else (p_String_charAt n v1 v2).bind fun x4 => (p_Md_must n x4 I R).bind fun (I6, R7) => l_Md_spells_2 n v1 k (v2 + 1) I6 R7)
set_option maxHeartbeats 4000000 in
theorem wl_Md_spells_2 {Q : State → Prop}  {p : Program} {l : Launch} {e : Env} {s : State} {m : MethodId} {args : Array Value} {below : List Frame} {meth : Method} {c : Code} {dC : Nat → ClassId} {dI : Nat → Nat → Nat} {ad : Nat → Nat} {cI cZ : ClassId} {A : Nat → Prop} {adK adV : Nat → Nat} (C : mC p s m args c b_Md_spells 3 dC dI cI cZ A adK adV) (hA : ∀ q, s.heap.size ≤ q → A q) (hr : meth.sig.returnType = none) (hlk : meth.locks = false) (n : Nat) (v1 : Nat) (hv1 : v1 < 12)   : ∀ (k : Nat) (v2 : Int32) (I : Nat → Int32) (R : Nat → Nat → Int32) (r0 : Nat → Int32) (r1 : Nat → Nat → Int32), l_Md_spells_2 n v1 k v2 I R = some (r0, r1) → (∀ (ls : Array Slot), lv_has ls 3 [] → ∀ (H : Heap) (locs : List Loc), mH A s.heap dC dI ad cI cZ r0 r1 H locs → W p l e (rL 7) s m args below meth c H locs 0 0 Q (F0 m 25 ls [])) → ∀ (ls : Array Slot), lv_has ls 3 [(0, .ref (ad 0)), (1, .ref (adK v1)), (2, .int v2)] → ∀ (H : Heap) (locs : List Loc), mH A s.heap dC dI ad cI cZ I R H locs → W p l e (rL 7) s m args below meth c H locs 0 0 Q (F0 m 2 ls []) := by
  obtain ⟨hx, hb, hml, hown, hT, -⟩ := id C
  intro k
  induction k with
  | zero => intro v2 I R r0 r1 hf; exact absurd hf (by unfold l_Md_spells_2; exact fun h9 => by cases h9)
  | succ k ih =>
    intro v2 I R r0 r1 hf K ls hl H locs h
    unfold l_Md_spells_2 at hf
    refine lv_iload_n hx hb d_Md_spells_2 rfl (lv_at hl 2 rfl) ?_
    refine lv_aload_n hx hb d_Md_spells_3 rfl (lv_at hl 1 rfl) ?_
    obtain ⟨x2, hc1, hf⟩ := op_bind hf
    refine kt_v (i := v1) (rest := [.int v2]) hx hb hml hown hT (mT C h) hv1 (c_String_length l n adK adV v1 hv1 _ hc1) (cbW 0 hT cd_String_length rfl rfl ini_String ml_Md_65 hd_String_length ⟨Nat.le_of_ble_eq_true rfl, Nat.le_of_ble_eq_true rfl⟩) im_String_length se_String_String_length__String_length rfl hl.1 rfl (Nat.le_of_ble_eq_true rfl) d_Md_spells_4 ⟨Nat.zero_le _, Nat.zero_le _⟩ ?_
    refine lv_icmp_ge (tgt := 25) hx hb d_Md_spells_7 (by decide) (fun hc => ?_) (fun hc => ?_)
    · have hf := op_t hc hf
      obtain ⟨rfl, rfl⟩ := op_i2 hf
      exact K ls (lv_sub hl [] rfl) H locs h
    · have hf := op_f hc hf
      refine lv_aload_n hx hb d_Md_spells_10 rfl (lv_at hl 0 rfl) ?_
      refine lv_aload_n hx hb d_Md_spells_11 rfl (lv_at hl 1 rfl) ?_
      refine lv_iload_n hx hb d_Md_spells_12 rfl (lv_at hl 2 rfl) ?_
      obtain ⟨x4, hc3, hf⟩ := op_bind hf
      refine kt_v (i := v1) (rest := [.ref (ad 0)]) hx hb hml hown hT (mT C h) hv1 (c_String_charAt l n adK adV v1 v2 hv1 _ hc3) (cbW 1 hT cd_String_charAt rfl rfl ini_String ml_Md_70 hd_String_charAt ⟨Nat.le_of_ble_eq_true rfl, Nat.le_of_ble_eq_true rfl⟩) im_String_charAt se_String_String_charAt__String_charAt rfl hl.1 rfl (Nat.le_of_ble_eq_true rfl) d_Md_spells_13 ⟨Nat.zero_le _, Nat.zero_le _⟩ ?_
      obtain ⟨⟨I6, R7⟩, hc5, hf⟩ := op_bind hf
      try dsimp only at hf
      refine kc_v (rest := []) C h hA (c_Md_must l n x4 I R) hc5 (cbW 1 hT cd_Md_must rfl rfl ini_Md ml_Md_74 hd_Md_must ⟨Nat.le_of_ble_eq_true rfl, Nat.le_of_ble_eq_true rfl⟩) im_Md_must sp_Md_must rfl hl.1 rfl (Nat.le_of_ble_eq_true rfl) d_Md_spells_16 ⟨Nat.zero_le _, Nat.zero_le _⟩ (fun H locs h => ?_)
      refine lv_iinc (v := (v2 + 1)) (lv' := [(2, .int (v2 + 1)), (0, .ref (ad 0)), (1, .ref (adK v1))]) hx hb d_Md_spells_19 hl (k := 2) rfl rfl (by decide) rfl (fun ls hl => ?_)
      refine lv_goto (tgt := 2) hx hb d_Md_spells_22 (by decide) ?_
      exact ih (v2 + 1) I6 R7 _ _ hf K ls (lv_sub hl [1, 2, 0] rfl) H locs h
def p_Md_spells (n : Nat) (v1 : Nat) (I : Nat → Int32) (R : Nat → Nat → Int32) : Option (MU) := (l_Md_spells_2 n v1 n 0 I R).bind fun (I8, R9) => some (I8, R9)
set_option maxHeartbeats 4000000 in
theorem c_Md_spells (l : Launch) (n : Nat) (v1 : Nat) (I : Nat → Int32) (R : Nat → Nat → Int32) (hv1 : v1 < 12) : MMv l y_Md_spells b_Md_spells 3 (rL 7) (fun ad adK => [.ref (adK v1)]) I R (p_Md_spells n v1 I R) := by
  refine en_mv (by decide) rfl (fun _ _ => Nat.le_of_ble_eq_true rfl) ?_
  intro z hf p e s m args below meth c dC dI ad cI cZ A adK adV ls C hA h hr hlk hl
  have hl : lv_has ls 3 [(0, .ref (ad 0)), (1, .ref (adK v1))] := hl
  unfold p_Md_spells at hf
  obtain ⟨hx, hb, hml, hown, hT, -⟩ := id C
  refine lv_iconst (v := 0) hx hb d_Md_spells_0 (by decide) ?_
  refine lv_istore_n (lv' := [(2, .int 0), (0, .ref (ad 0)), (1, .ref (adK v1))]) hx hb d_Md_spells_1 rfl hl (by decide) rfl (fun ls hl => ?_)
  obtain ⟨⟨I8, R9⟩, he, hf⟩ := op_bind hf
  try dsimp only at hf
  refine wl_Md_spells_2 C hA hr hlk n v1 hv1 n 0 I R _ _ he (fun ls hl H locs h => ?_) ls (lv_sub hl [1, 2, 0] rfl) s.heap [] h
  exact rt_mv C h hr hlk hf d_Md_spells_25
theorem hd_Md_among : y_Md_among.cls ≠ "java/lang/invoke/MethodHandle" ∧ y_Md_among.cls ≠ "java/lang/invoke/VarHandle" ∧ (parseMethodDescriptor y_Md_among.desc).map (fun d => d.parameters.length) = some 1 := by decide +kernel
theorem d_Md_among_0 : decode b_Md_among 0 = .ok (.iconst 0, 1) := by decide +kernel
theorem d_Md_among_1 : decode b_Md_among 1 = .ok (.istore_n 2, 1) := by decide +kernel
theorem d_Md_among_2 : decode b_Md_among 2 = .ok (.iload_n 2, 1) := by decide +kernel
theorem d_Md_among_3 : decode b_Md_among 3 = .ok (.aload_n 1, 1) := by decide +kernel
theorem d_Md_among_4 : decode b_Md_among 4 = .ok (.invokevirtual 65, 3) := by decide +kernel
theorem d_Md_among_7 : decode b_Md_among 7 = .ok (.if_icmp .ge 33, 3) := by decide +kernel
theorem d_Md_among_10 : decode b_Md_among 10 = .ok (.aload_n 0, 1) := by decide +kernel
theorem d_Md_among_11 : decode b_Md_among 11 = .ok (.invokevirtual 62, 3) := by decide +kernel
theorem d_Md_among_14 : decode b_Md_among 14 = .ok (.aload_n 1, 1) := by decide +kernel
theorem d_Md_among_15 : decode b_Md_among 15 = .ok (.iload_n 2, 1) := by decide +kernel
theorem d_Md_among_16 : decode b_Md_among 16 = .ok (.invokevirtual 70, 3) := by decide +kernel
theorem d_Md_among_19 : decode b_Md_among 19 = .ok (.if_icmp .ne 15, 3) := by decide +kernel
theorem d_Md_among_22 : decode b_Md_among 22 = .ok (.aload_n 0, 1) := by decide +kernel
theorem d_Md_among_23 : decode b_Md_among 23 = .ok (.dup, 1) := by decide +kernel
theorem d_Md_among_24 : decode b_Md_among 24 = .ok (.getfield 52, 3) := by decide +kernel
theorem d_Md_among_27 : decode b_Md_among 27 = .ok (.iconst 1, 1) := by decide +kernel
theorem d_Md_among_28 : decode b_Md_among 28 = .ok (.iadd, 1) := by decide +kernel
theorem d_Md_among_29 : decode b_Md_among 29 = .ok (.putfield 52, 3) := by decide +kernel
theorem d_Md_among_32 : decode b_Md_among 32 = .ok (.iload_n 2, 1) := by decide +kernel
theorem d_Md_among_33 : decode b_Md_among 33 = .ok (.ireturn, 1) := by decide +kernel
theorem d_Md_among_34 : decode b_Md_among 34 = .ok (.iinc 2 1, 3) := by decide +kernel
theorem d_Md_among_37 : decode b_Md_among 37 = .ok (.goto (-35), 3) := by decide +kernel
theorem d_Md_among_40 : decode b_Md_among 40 = .ok (.iconst (-1), 1) := by decide +kernel
theorem d_Md_among_41 : decode b_Md_among 41 = .ok (.ireturn, 1) := by decide +kernel
def l_Md_among_2 (n : Nat) (v1 : Nat)  (I : Nat → Int32) (R : Nat → Nat → Int32) : Nat → Int32 → Option (Int32 × MU)
  | 0, _ => none
  | k + 1, v2 => (p_String_length n v1).bind fun x2 => (if x2 ≤ v2 then some ((-1), I, R) else (p_Md_here n I R).bind fun x4 => (p_String_charAt n v1 v2).bind fun x6 => (if x4 = x6 then some (v2, (upd I 5 ((I 5) + 1)), R) else l_Md_among_2 n v1 I R k (v2 + 1)))
set_option maxHeartbeats 4000000 in
theorem wl_Md_among_2  {p : Program} {l : Launch} {e : Env} {s : State} {m : MethodId} {args : Array Value} {below : List Frame} {meth : Method} {c : Code} {dC : Nat → ClassId} {dI : Nat → Nat → Nat} {ad : Nat → Nat} {cI cZ : ClassId} {A : Nat → Prop} {adK adV : Nat → Nat} (C : mC p s m args c b_Md_among 3 dC dI cI cZ A adK adV) (hA : ∀ q, s.heap.size ≤ q → A q) (hr : meth.sig.returnType = some .int) (hlk : meth.locks = false) (n : Nat) (v1 : Nat) (hv1 : v1 < 12)  (I : Nat → Int32) (R : Nat → Nat → Int32) : ∀ (k : Nat) (v2 : Int32) (z : Int32 × MU), l_Md_among_2 n v1 I R k v2 = some z → ∀ (ls : Array Slot), lv_has ls 3 [(0, .ref (ad 0)), (1, .ref (adK v1)), (2, .int v2)] → ∀ (H : Heap) (locs : List Loc), mH A s.heap dC dI ad cI cZ I R H locs → W p l e (rL 6) s m args below meth c H locs 0 0 (mQi dC dI ad cI cZ A below args s z) (F0 m 2 ls []) := by
  obtain ⟨hx, hb, hml, hown, hT, -⟩ := id C
  intro k
  induction k with
  | zero => intro v2 z hf; exact absurd hf (by unfold l_Md_among_2; exact fun h9 => by cases h9)
  | succ k ih =>
    intro v2 z hf ls hl H locs h
    unfold l_Md_among_2 at hf
    refine lv_iload_n hx hb d_Md_among_2 rfl (lv_at hl 2 rfl) ?_
    refine lv_aload_n hx hb d_Md_among_3 rfl (lv_at hl 1 rfl) ?_
    obtain ⟨x2, hc1, hf⟩ := op_bind hf
    refine kt_v (i := v1) (rest := [.int v2]) hx hb hml hown hT (mT C h) hv1 (c_String_length l n adK adV v1 hv1 _ hc1) (cbW 0 hT cd_String_length rfl rfl ini_String ml_Md_65 hd_String_length ⟨Nat.le_of_ble_eq_true rfl, Nat.le_of_ble_eq_true rfl⟩) im_String_length se_String_String_length__String_length rfl hl.1 rfl (Nat.le_of_ble_eq_true rfl) d_Md_among_4 ⟨Nat.zero_le _, Nat.zero_le _⟩ ?_
    refine lv_icmp_ge (tgt := 40) hx hb d_Md_among_7 (by decide) (fun hc => ?_) (fun hc => ?_)
    · have hf := op_t hc hf
      refine lv_iconst (v := (-1)) hx hb d_Md_among_40 (by decide) ?_
      exact rt_mi C h hr hlk hf rfl d_Md_among_41
    · have hf := op_f hc hf
      refine lv_aload_n hx hb d_Md_among_10 rfl (lv_at hl 0 rfl) ?_
      obtain ⟨x4, hc3, hf⟩ := op_bind hf
      refine kc_r (rest := []) C h hA (c_Md_here l n I R) hc3 (cbW 0 hT cd_Md_here rfl rfl ini_Md ml_Md_62 hd_Md_here ⟨Nat.le_of_ble_eq_true rfl, Nat.le_of_ble_eq_true rfl⟩) im_Md_here sp_Md_here rfl hl.1 rfl (Nat.le_of_ble_eq_true rfl) d_Md_among_11 ⟨Nat.zero_le _, Nat.zero_le _⟩ (fun H locs h => ?_)
      refine lv_aload_n hx hb d_Md_among_14 rfl (lv_at hl 1 rfl) ?_
      refine lv_iload_n hx hb d_Md_among_15 rfl (lv_at hl 2 rfl) ?_
      obtain ⟨x6, hc5, hf⟩ := op_bind hf
      refine kt_v (i := v1) (rest := [.int x4]) hx hb hml hown hT (mT C h) hv1 (c_String_charAt l n adK adV v1 v2 hv1 _ hc5) (cbW 1 hT cd_String_charAt rfl rfl ini_String ml_Md_70 hd_String_charAt ⟨Nat.le_of_ble_eq_true rfl, Nat.le_of_ble_eq_true rfl⟩) im_String_charAt se_String_String_charAt__String_charAt rfl hl.1 rfl (Nat.le_of_ble_eq_true rfl) d_Md_among_16 ⟨Nat.zero_le _, Nat.zero_le _⟩ ?_
      refine lv_icmp_ne (tgt := 34) hx hb d_Md_among_19 (by decide) (fun hc => ?_) (fun hc => ?_)
      · have hf := op_f hc hf
        refine lv_iinc (v := (v2 + 1)) (lv' := [(2, .int (v2 + 1)), (0, .ref (ad 0)), (1, .ref (adK v1))]) hx hb d_Md_among_34 hl (k := 2) rfl rfl (by decide) rfl (fun ls hl => ?_)
        refine lv_goto (tgt := 2) hx hb d_Md_among_37 (by decide) ?_
        exact ih (v2 + 1) _ hf ls (lv_sub hl [1, 2, 0] rfl) H locs h
      · have hf := op_t hc hf
        refine lv_aload_n hx hb d_Md_among_22 rfl (lv_at hl 0 rfl) ?_
        refine lv_dup hx hb d_Md_among_23 rfl ?_
        refine mg_5 C h d_Md_among_24 ?_
        refine lv_iconst (v := 1) hx hb d_Md_among_27 (by decide) ?_
        refine lv_iadd hx hb d_Md_among_28 ?_
        refine mp_5 C h d_Md_among_29 (fun H locs h => ?_)
        refine lv_iload_n hx hb d_Md_among_32 rfl (lv_at hl 2 rfl) ?_
        exact rt_mi C h hr hlk hf rfl d_Md_among_33
def p_Md_among (n : Nat) (v1 : Nat) (I : Nat → Int32) (R : Nat → Nat → Int32) : Option (Int32 × MU) := l_Md_among_2 n v1 I R n 0
set_option maxHeartbeats 4000000 in
theorem c_Md_among (l : Launch) (n : Nat) (v1 : Nat) (I : Nat → Int32) (R : Nat → Nat → Int32) (hv1 : v1 < 12) : MMi l y_Md_among b_Md_among 3 .int (rL 6) (fun ad adK => [.ref (adK v1)]) I R (p_Md_among n v1 I R) := by
  refine en_mi (by decide) rfl (fun _ _ => Nat.le_of_ble_eq_true rfl) ?_
  intro z hf p e s m args below meth c dC dI ad cI cZ A adK adV ls C hA h hr hlk hl
  have hl : lv_has ls 3 [(0, .ref (ad 0)), (1, .ref (adK v1))] := hl
  unfold p_Md_among at hf
  obtain ⟨hx, hb, hml, hown, hT, -⟩ := id C
  refine lv_iconst (v := 0) hx hb d_Md_among_0 (by decide) ?_
  refine lv_istore_n (lv' := [(2, .int 0), (0, .ref (ad 0)), (1, .ref (adK v1))]) hx hb d_Md_among_1 rfl hl (by decide) rfl (fun ls hl => ?_)
  exact wl_Md_among_2 C hA hr hlk n v1 hv1 I R n 0 _ hf ls (lv_sub hl [1, 2, 0] rfl) s.heap [] h
theorem hd_Md_tellsHere : y_Md_tellsHere.cls ≠ "java/lang/invoke/MethodHandle" ∧ y_Md_tellsHere.cls ≠ "java/lang/invoke/VarHandle" ∧ (parseMethodDescriptor y_Md_tellsHere.desc).map (fun d => d.parameters.length) = some 2 := by decide +kernel
theorem d_Md_tellsHere_0 : decode b_Md_tellsHere 0 = .ok (.aload_n 0, 1) := by decide +kernel
theorem d_Md_tellsHere_1 : decode b_Md_tellsHere 1 = .ok (.aload_n 2, 1) := by decide +kernel
theorem d_Md_tellsHere_2 : decode b_Md_tellsHere 2 = .ok (.invokevirtual 107, 3) := by decide +kernel
theorem d_Md_tellsHere_5 : decode b_Md_tellsHere 5 = .ok (.aload_n 0, 1) := by decide +kernel
theorem d_Md_tellsHere_6 : decode b_Md_tellsHere 6 = .ok (.invokevirtual 101, 3) := by decide +kernel
theorem d_Md_tellsHere_9 : decode b_Md_tellsHere 9 = .ok (.istore_n 3, 1) := by decide +kernel
theorem d_Md_tellsHere_10 : decode b_Md_tellsHere 10 = .ok (.aload_n 0, 1) := by decide +kernel
theorem d_Md_tellsHere_11 : decode b_Md_tellsHere 11 = .ok (.getfield 58, 3) := by decide +kernel
theorem d_Md_tellsHere_14 : decode b_Md_tellsHere 14 = .ok (.ifCond .ne 15, 3) := by decide +kernel
theorem d_Md_tellsHere_17 : decode b_Md_tellsHere 17 = .ok (.aload_n 0, 1) := by decide +kernel
theorem d_Md_tellsHere_18 : decode b_Md_tellsHere 18 = .ok (.getfield 9, 3) := by decide +kernel
theorem d_Md_tellsHere_21 : decode b_Md_tellsHere 21 = .ok (.iload_n 1, 1) := by decide +kernel
theorem d_Md_tellsHere_22 : decode b_Md_tellsHere 22 = .ok (.aload_n 0, 1) := by decide +kernel
theorem d_Md_tellsHere_23 : decode b_Md_tellsHere 23 = .ok (.getfield 78, 3) := by decide +kernel
theorem d_Md_tellsHere_26 : decode b_Md_tellsHere 26 = .ok (.iadd, 1) := by decide +kernel
theorem d_Md_tellsHere_27 : decode b_Md_tellsHere 27 = .ok (.iload_n 3, 1) := by decide +kernel
theorem d_Md_tellsHere_28 : decode b_Md_tellsHere 28 = .ok (.iastore, 1) := by decide +kernel
theorem d_Md_tellsHere_29 : decode b_Md_tellsHere 29 = .ok (.return_, 1) := by decide +kernel
def p_Md_tellsHere (n : Nat) (v1 : Int32) (v2 : Nat) (I : Nat → Int32) (R : Nat → Nat → Int32) : Option (MU) := (p_Md_spells n v2 I R).bind fun (I2, R3) => (p_Md_figures n I2 R3).bind fun (x7, I5, R6) => (if (I5 7) = 0 then if ix (v1 + (I5 4)) 890 then some (I5, (upR R6 1 (v1 + (I5 4)).toNatClampNeg x7)) else none else some (I5, R6))
set_option maxHeartbeats 4000000 in
theorem c_Md_tellsHere (l : Launch) (n : Nat) (v1 : Int32) (v2 : Nat) (I : Nat → Int32) (R : Nat → Nat → Int32) (hv2 : v2 < 12) : MMv l y_Md_tellsHere b_Md_tellsHere 4 (rL 8) (fun ad adK => [.int v1, .ref (adK v2)]) I R (p_Md_tellsHere n v1 v2 I R) := by
  refine en_mv (by decide) rfl (fun _ _ => Nat.le_of_ble_eq_true rfl) ?_
  intro z hf p e s m args below meth c dC dI ad cI cZ A adK adV ls C hA h hr hlk hl
  have hl : lv_has ls 4 [(0, .ref (ad 0)), (1, .int v1), (2, .ref (adK v2))] := hl
  unfold p_Md_tellsHere at hf
  obtain ⟨hx, hb, hml, hown, hT, -⟩ := id C
  refine lv_aload_n hx hb d_Md_tellsHere_0 rfl (lv_at hl 0 rfl) ?_
  refine lv_aload_n hx hb d_Md_tellsHere_1 rfl (lv_at hl 2 rfl) ?_
  obtain ⟨⟨I2, R3⟩, hc1, hf⟩ := op_bind hf
  try dsimp only at hf
  refine kc_v (rest := []) C h hA (c_Md_spells l n v2 I R hv2) hc1 (cbW 1 hT cd_Md_spells rfl rfl ini_Md ml_Md_107 hd_Md_spells ⟨Nat.le_of_ble_eq_true rfl, Nat.le_of_ble_eq_true rfl⟩) im_Md_spells sp_Md_spells rfl hl.1 rfl (Nat.le_of_ble_eq_true rfl) d_Md_tellsHere_2 ⟨Nat.zero_le _, Nat.zero_le _⟩ (fun H locs h => ?_)
  refine lv_aload_n hx hb d_Md_tellsHere_5 rfl (lv_at hl 0 rfl) ?_
  obtain ⟨⟨x7, I5, R6⟩, hc4, hf⟩ := op_bind hf
  try dsimp only at hf
  refine kc_i (rest := []) C h hA (c_Md_figures l n I2 R3) hc4 (cbW 0 hT cd_Md_figures rfl rfl ini_Md ml_Md_101 hd_Md_figures ⟨Nat.le_of_ble_eq_true rfl, Nat.le_of_ble_eq_true rfl⟩) im_Md_figures sp_Md_figures rfl hl.1 rfl (Nat.le_of_ble_eq_true rfl) d_Md_tellsHere_6 ⟨Nat.zero_le _, Nat.zero_le _⟩ (fun H locs h => ?_)
  refine lv_istore_n (lv' := [(3, .int x7), (0, .ref (ad 0)), (1, .int v1), (2, .ref (adK v2))]) hx hb d_Md_tellsHere_9 rfl hl (by decide) rfl (fun ls hl => ?_)
  refine lv_aload_n hx hb d_Md_tellsHere_10 rfl (lv_at hl 1 rfl) ?_
  refine mg_7 C h d_Md_tellsHere_11 ?_
  refine lv_if_ne (tgt := 29) hx hb d_Md_tellsHere_14 (by decide) (fun hc => ?_) (fun hc => ?_)
  · have hf := op_f hc hf
    exact rt_mv C h hr hlk hf d_Md_tellsHere_29
  · have hf := op_t hc hf
    refine lv_aload_n hx hb d_Md_tellsHere_17 rfl (lv_at hl 1 rfl) ?_
    refine mg_1 C h d_Md_tellsHere_18 ?_
    refine lv_iload_n hx hb d_Md_tellsHere_21 rfl (lv_at hl 2 rfl) ?_
    refine lv_aload_n hx hb d_Md_tellsHere_22 rfl (lv_at hl 1 rfl) ?_
    refine mg_4 C h d_Md_tellsHere_23 ?_
    refine lv_iadd hx hb d_Md_tellsHere_26 ?_
    refine lv_iload_n hx hb d_Md_tellsHere_27 rfl (lv_at hl 0 rfl) ?_
    obtain ⟨h8, hf⟩ := op_if hf
    refine ms_1 C h rfl h8 d_Md_tellsHere_28 (fun H locs h => ?_)
    exact rt_mv C h hr hlk hf d_Md_tellsHere_29
theorem hd_Md_every : y_Md_every.cls ≠ "java/lang/invoke/MethodHandle" ∧ y_Md_every.cls ≠ "java/lang/invoke/VarHandle" ∧ (parseMethodDescriptor y_Md_every.desc).map (fun d => d.parameters.length) = some 0 := by decide +kernel
theorem d_Md_every_0 : decode b_Md_every 0 = .ok (.aload_n 0, 1) := by decide +kernel
theorem d_Md_every_1 : decode b_Md_every 1 = .ok (.invokevirtual 84, 3) := by decide +kernel
theorem d_Md_every_4 : decode b_Md_every 4 = .ok (.aload_n 0, 1) := by decide +kernel
theorem d_Md_every_5 : decode b_Md_every 5 = .ok (.getfield 58, 3) := by decide +kernel
theorem d_Md_every_8 : decode b_Md_every 8 = .ok (.ifCond .ne 35, 3) := by decide +kernel
theorem d_Md_every_11 : decode b_Md_every 11 = .ok (.aload_n 0, 1) := by decide +kernel
theorem d_Md_every_12 : decode b_Md_every 12 = .ok (.invokevirtual 62, 3) := by decide +kernel
theorem d_Md_every_15 : decode b_Md_every 15 = .ok (.bipush 38, 2) := by decide +kernel
theorem d_Md_every_17 : decode b_Md_every 17 = .ok (.if_icmp .ne 26, 3) := by decide +kernel
theorem d_Md_every_20 : decode b_Md_every 20 = .ok (.aload_n 0, 1) := by decide +kernel
theorem d_Md_every_21 : decode b_Md_every 21 = .ok (.dup, 1) := by decide +kernel
theorem d_Md_every_22 : decode b_Md_every 22 = .ok (.getfield 52, 3) := by decide +kernel
theorem d_Md_every_25 : decode b_Md_every 25 = .ok (.iconst 1, 1) := by decide +kernel
theorem d_Md_every_26 : decode b_Md_every 26 = .ok (.iadd, 1) := by decide +kernel
theorem d_Md_every_27 : decode b_Md_every 27 = .ok (.putfield 52, 3) := by decide +kernel
theorem d_Md_every_30 : decode b_Md_every 30 = .ok (.aload_n 0, 1) := by decide +kernel
theorem d_Md_every_31 : decode b_Md_every 31 = .ok (.invokevirtual 84, 3) := by decide +kernel
theorem d_Md_every_34 : decode b_Md_every 34 = .ok (.aload_n 0, 1) := by decide +kernel
theorem d_Md_every_35 : decode b_Md_every 35 = .ok (.bipush (-2), 2) := by decide +kernel
theorem d_Md_every_37 : decode b_Md_every 37 = .ok (.invokevirtual 87, 3) := by decide +kernel
theorem d_Md_every_40 : decode b_Md_every 40 = .ok (.goto (-36), 3) := by decide +kernel
theorem d_Md_every_43 : decode b_Md_every 43 = .ok (.return_, 1) := by decide +kernel
def l_Md_every_4 (n : Nat) (fac : (Nat → Int32) → (Nat → Nat → Int32) → Option MU)    : Nat → (Nat → Int32) → (Nat → Nat → Int32) → Option ((Nat → Int32) × (Nat → Nat → Int32))
  | 0, _, _ => none
  | k + 1, I, R => (if (I 7) = 0 then (p_Md_here n I R).bind fun x5 => (if x5 = 38 then (fac (upd I 5 ((I 5) + 1)) R).bind fun (I7, R8) => (p_Md_emits n (-2) I7 R8).bind fun (I10, R11) => l_Md_every_4 n fac k I10 R11 else some (I, R)) else some (I, R))
set_option maxHeartbeats 4000000 in
theorem wl_Md_every_4 {Q : State → Prop}  {p : Program} {l : Launch} {e : Env} {s : State} {m : MethodId} {args : Array Value} {below : List Frame} {meth : Method} {c : Code} {dC : Nat → ClassId} {dI : Nat → Nat → Nat} {ad : Nat → Nat} {cI cZ : ClassId} {A : Nat → Prop} {adK adV : Nat → Nat} (C : mC p s m args c b_Md_every 1 dC dI cI cZ A adK adV) (hA : ∀ q, s.heap.size ≤ q → A q) (hr : meth.sig.returnType = none) (hlk : meth.locks = false) (n : Nat) (fac : (Nat → Int32) → (Nat → Nat → Int32) → Option MU) (d : Nat) (hd : 10 ≤ d) (hfac : ∀ (I : Nat → Int32) (R : Nat → Nat → Int32), MMv l y_Md_factor b_Md_factor 5 (rL d) (fun ad adK => []) I R (fac I R))    : ∀ (k : Nat)  (I : Nat → Int32) (R : Nat → Nat → Int32) (r0 : Nat → Int32) (r1 : Nat → Nat → Int32), l_Md_every_4 n fac k I R = some (r0, r1) → (∀ (ls : Array Slot), lv_has ls 1 [] → ∀ (H : Heap) (locs : List Loc), mH A s.heap dC dI ad cI cZ r0 r1 H locs → W p l e (rL (d + 1)) s m args below meth c H locs 0 0 Q (F0 m 43 ls [])) → ∀ (ls : Array Slot), lv_has ls 1 [(0, .ref (ad 0))] → ∀ (H : Heap) (locs : List Loc), mH A s.heap dC dI ad cI cZ I R H locs → W p l e (rL (d + 1)) s m args below meth c H locs 0 0 Q (F0 m 4 ls []) := by
  obtain ⟨hx, hb, hml, hown, hT, -⟩ := id C
  intro k
  induction k with
  | zero => intro I R r0 r1 hf; exact absurd hf (by unfold l_Md_every_4; exact fun h9 => by cases h9)
  | succ k ih =>
    intro I R r0 r1 hf K ls hl H locs h
    unfold l_Md_every_4 at hf
    refine lv_aload_n hx hb d_Md_every_4 rfl (lv_at hl 0 rfl) ?_
    refine mg_7 C h d_Md_every_5 ?_
    refine lv_if_ne (tgt := 43) hx hb d_Md_every_8 (by decide) (fun hc => ?_) (fun hc => ?_)
    · have hf := op_f hc hf
      obtain ⟨rfl, rfl⟩ := op_i2 hf
      exact K ls (lv_sub hl [] rfl) H locs h
    · have hf := op_t hc hf
      refine lv_aload_n hx hb d_Md_every_11 rfl (lv_at hl 0 rfl) ?_
      obtain ⟨x5, hc4, hf⟩ := op_bind hf
      refine kc_r (rest := []) C h hA (c_Md_here l n I R) hc4 (cbW 0 hT cd_Md_here rfl rfl ini_Md ml_Md_62 hd_Md_here (rL_c hd (by decide) (by decide))) im_Md_here sp_Md_here rfl hl.1 rfl (Nat.le_of_ble_eq_true rfl) d_Md_every_12 ⟨Nat.zero_le _, Nat.zero_le _⟩ (fun H locs h => ?_)
      refine lv_bipush (v := 38) hx hb d_Md_every_15 (by decide) ?_
      refine lv_icmp_ne (tgt := 43) hx hb d_Md_every_17 (by decide) (fun hc => ?_) (fun hc => ?_)
      · have hf := op_f hc hf
        obtain ⟨rfl, rfl⟩ := op_i2 hf
        exact K ls (lv_sub hl [] rfl) H locs h
      · have hf := op_t hc hf
        refine lv_aload_n hx hb d_Md_every_20 rfl (lv_at hl 0 rfl) ?_
        refine lv_dup hx hb d_Md_every_21 rfl ?_
        refine mg_5 C h d_Md_every_22 ?_
        refine lv_iconst (v := 1) hx hb d_Md_every_25 (by decide) ?_
        refine lv_iadd hx hb d_Md_every_26 ?_
        refine mp_5 C h d_Md_every_27 (fun H locs h => ?_)
        refine lv_aload_n hx hb d_Md_every_30 rfl (lv_at hl 0 rfl) ?_
        obtain ⟨⟨I7, R8⟩, hc6, hf⟩ := op_bind hf
        try dsimp only at hf
        refine kc_v (rest := []) C h hA (hfac (upd I 5 ((I 5) + 1)) R) hc6 (cbW 0 hT cd_Md_factor rfl rfl ini_Md ml_Md_84 hd_Md_factor (rL_ok (by omega) (by decide))) im_Md_factor sp_Md_factor rfl hl.1 rfl (Nat.le_of_ble_eq_true rfl) d_Md_every_31 ⟨Nat.zero_le _, Nat.zero_le _⟩ (fun H locs h => ?_)
        refine lv_aload_n hx hb d_Md_every_34 rfl (lv_at hl 0 rfl) ?_
        refine lv_bipush (v := (-2)) hx hb d_Md_every_35 (by decide) ?_
        obtain ⟨⟨I10, R11⟩, hc9, hf⟩ := op_bind hf
        try dsimp only at hf
        refine kc_v (rest := []) C h hA (c_Md_emits l n (-2) I7 R8) hc9 (cbW 1 hT cd_Md_emits rfl rfl ini_Md ml_Md_87 hd_Md_emits (rL_c hd (by decide) (by decide))) im_Md_emits sp_Md_emits rfl hl.1 rfl (Nat.le_of_ble_eq_true rfl) d_Md_every_37 ⟨Nat.zero_le _, Nat.zero_le _⟩ (fun H locs h => ?_)
        refine lv_goto (tgt := 4) hx hb d_Md_every_40 (by decide) ?_
        exact ih I10 R11 _ _ hf K ls (lv_sub hl [0] rfl) H locs h
def p_Md_every (n : Nat) (fac : (Nat → Int32) → (Nat → Nat → Int32) → Option MU)  (I : Nat → Int32) (R : Nat → Nat → Int32) : Option (MU) := (fac I R).bind fun (I2, R3) => (l_Md_every_4 n fac n I2 R3).bind fun (I12, R13) => some (I12, R13)
set_option maxHeartbeats 4000000 in
theorem c_Md_every (l : Launch) (n : Nat) (fac : (Nat → Int32) → (Nat → Nat → Int32) → Option MU) (d : Nat) (hd : 10 ≤ d) (hfac : ∀ (I : Nat → Int32) (R : Nat → Nat → Int32), MMv l y_Md_factor b_Md_factor 5 (rL d) (fun ad adK => []) I R (fac I R))  (I : Nat → Int32) (R : Nat → Nat → Int32)  : MMv l y_Md_every b_Md_every 1 (rL (d + 1)) (fun ad adK => []) I R (p_Md_every n fac I R) := by
  refine en_mv (by decide) rfl (fun _ _ => Nat.le_of_ble_eq_true rfl) ?_
  intro z hf p e s m args below meth c dC dI ad cI cZ A adK adV ls C hA h hr hlk hl
  have hl : lv_has ls 1 [(0, .ref (ad 0))] := hl
  unfold p_Md_every at hf
  obtain ⟨hx, hb, hml, hown, hT, -⟩ := id C
  refine lv_aload_n hx hb d_Md_every_0 rfl (lv_at hl 0 rfl) ?_
  obtain ⟨⟨I2, R3⟩, hc1, hf⟩ := op_bind hf
  try dsimp only at hf
  refine kc_v (rest := []) C h hA (hfac I R) hc1 (cbW 0 hT cd_Md_factor rfl rfl ini_Md ml_Md_84 hd_Md_factor (rL_ok (by omega) (by decide))) im_Md_factor sp_Md_factor rfl hl.1 rfl (Nat.le_of_ble_eq_true rfl) d_Md_every_1 ⟨Nat.zero_le _, Nat.zero_le _⟩ (fun H locs h => ?_)
  obtain ⟨⟨I12, R13⟩, he, hf⟩ := op_bind hf
  try dsimp only at hf
  refine wl_Md_every_4 C hA hr hlk n fac d hd hfac n I2 R3 _ _ he (fun ls hl H locs h => ?_) ls (lv_sub hl [0] rfl) H locs h
  exact rt_mv C h hr hlk hf d_Md_every_43
theorem hd_Md_some : y_Md_some.cls ≠ "java/lang/invoke/MethodHandle" ∧ y_Md_some.cls ≠ "java/lang/invoke/VarHandle" ∧ (parseMethodDescriptor y_Md_some.desc).map (fun d => d.parameters.length) = some 0 := by decide +kernel
theorem d_Md_some_0 : decode b_Md_some 0 = .ok (.aload_n 0, 1) := by decide +kernel
theorem d_Md_some_1 : decode b_Md_some 1 = .ok (.invokevirtual 104, 3) := by decide +kernel
theorem d_Md_some_4 : decode b_Md_some 4 = .ok (.aload_n 0, 1) := by decide +kernel
theorem d_Md_some_5 : decode b_Md_some 5 = .ok (.getfield 58, 3) := by decide +kernel
theorem d_Md_some_8 : decode b_Md_some 8 = .ok (.ifCond .ne 35, 3) := by decide +kernel
theorem d_Md_some_11 : decode b_Md_some 11 = .ok (.aload_n 0, 1) := by decide +kernel
theorem d_Md_some_12 : decode b_Md_some 12 = .ok (.invokevirtual 62, 3) := by decide +kernel
theorem d_Md_some_15 : decode b_Md_some 15 = .ok (.bipush 124, 2) := by decide +kernel
theorem d_Md_some_17 : decode b_Md_some 17 = .ok (.if_icmp .ne 26, 3) := by decide +kernel
theorem d_Md_some_20 : decode b_Md_some 20 = .ok (.aload_n 0, 1) := by decide +kernel
theorem d_Md_some_21 : decode b_Md_some 21 = .ok (.dup, 1) := by decide +kernel
theorem d_Md_some_22 : decode b_Md_some 22 = .ok (.getfield 52, 3) := by decide +kernel
theorem d_Md_some_25 : decode b_Md_some 25 = .ok (.iconst 1, 1) := by decide +kernel
theorem d_Md_some_26 : decode b_Md_some 26 = .ok (.iadd, 1) := by decide +kernel
theorem d_Md_some_27 : decode b_Md_some 27 = .ok (.putfield 52, 3) := by decide +kernel
theorem d_Md_some_30 : decode b_Md_some 30 = .ok (.aload_n 0, 1) := by decide +kernel
theorem d_Md_some_31 : decode b_Md_some 31 = .ok (.invokevirtual 104, 3) := by decide +kernel
theorem d_Md_some_34 : decode b_Md_some 34 = .ok (.aload_n 0, 1) := by decide +kernel
theorem d_Md_some_35 : decode b_Md_some 35 = .ok (.bipush (-3), 2) := by decide +kernel
theorem d_Md_some_37 : decode b_Md_some 37 = .ok (.invokevirtual 87, 3) := by decide +kernel
theorem d_Md_some_40 : decode b_Md_some 40 = .ok (.goto (-36), 3) := by decide +kernel
theorem d_Md_some_43 : decode b_Md_some 43 = .ok (.return_, 1) := by decide +kernel
def l_Md_some_4 (n : Nat) (fac : (Nat → Int32) → (Nat → Nat → Int32) → Option MU)    : Nat → (Nat → Int32) → (Nat → Nat → Int32) → Option ((Nat → Int32) × (Nat → Nat → Int32))
  | 0, _, _ => none
  | k + 1, I, R => (if (I 7) = 0 then (p_Md_here n I R).bind fun x5 => (if x5 = 124 then (p_Md_every n fac (upd I 5 ((I 5) + 1)) R).bind fun (I7, R8) => (p_Md_emits n (-3) I7 R8).bind fun (I10, R11) => l_Md_some_4 n fac k I10 R11 else some (I, R)) else some (I, R))
set_option maxHeartbeats 4000000 in
theorem wl_Md_some_4 {Q : State → Prop}  {p : Program} {l : Launch} {e : Env} {s : State} {m : MethodId} {args : Array Value} {below : List Frame} {meth : Method} {c : Code} {dC : Nat → ClassId} {dI : Nat → Nat → Nat} {ad : Nat → Nat} {cI cZ : ClassId} {A : Nat → Prop} {adK adV : Nat → Nat} (C : mC p s m args c b_Md_some 1 dC dI cI cZ A adK adV) (hA : ∀ q, s.heap.size ≤ q → A q) (hr : meth.sig.returnType = none) (hlk : meth.locks = false) (n : Nat) (fac : (Nat → Int32) → (Nat → Nat → Int32) → Option MU) (d : Nat) (hd : 10 ≤ d) (hfac : ∀ (I : Nat → Int32) (R : Nat → Nat → Int32), MMv l y_Md_factor b_Md_factor 5 (rL d) (fun ad adK => []) I R (fac I R))    : ∀ (k : Nat)  (I : Nat → Int32) (R : Nat → Nat → Int32) (r0 : Nat → Int32) (r1 : Nat → Nat → Int32), l_Md_some_4 n fac k I R = some (r0, r1) → (∀ (ls : Array Slot), lv_has ls 1 [] → ∀ (H : Heap) (locs : List Loc), mH A s.heap dC dI ad cI cZ r0 r1 H locs → W p l e (rL (d + 2)) s m args below meth c H locs 0 0 Q (F0 m 43 ls [])) → ∀ (ls : Array Slot), lv_has ls 1 [(0, .ref (ad 0))] → ∀ (H : Heap) (locs : List Loc), mH A s.heap dC dI ad cI cZ I R H locs → W p l e (rL (d + 2)) s m args below meth c H locs 0 0 Q (F0 m 4 ls []) := by
  obtain ⟨hx, hb, hml, hown, hT, -⟩ := id C
  intro k
  induction k with
  | zero => intro I R r0 r1 hf; exact absurd hf (by unfold l_Md_some_4; exact fun h9 => by cases h9)
  | succ k ih =>
    intro I R r0 r1 hf K ls hl H locs h
    unfold l_Md_some_4 at hf
    refine lv_aload_n hx hb d_Md_some_4 rfl (lv_at hl 0 rfl) ?_
    refine mg_7 C h d_Md_some_5 ?_
    refine lv_if_ne (tgt := 43) hx hb d_Md_some_8 (by decide) (fun hc => ?_) (fun hc => ?_)
    · have hf := op_f hc hf
      obtain ⟨rfl, rfl⟩ := op_i2 hf
      exact K ls (lv_sub hl [] rfl) H locs h
    · have hf := op_t hc hf
      refine lv_aload_n hx hb d_Md_some_11 rfl (lv_at hl 0 rfl) ?_
      obtain ⟨x5, hc4, hf⟩ := op_bind hf
      refine kc_r (rest := []) C h hA (c_Md_here l n I R) hc4 (cbW 0 hT cd_Md_here rfl rfl ini_Md ml_Md_62 hd_Md_here (rL_c hd (by decide) (by decide))) im_Md_here sp_Md_here rfl hl.1 rfl (Nat.le_of_ble_eq_true rfl) d_Md_some_12 ⟨Nat.zero_le _, Nat.zero_le _⟩ (fun H locs h => ?_)
      refine lv_bipush (v := 124) hx hb d_Md_some_15 (by decide) ?_
      refine lv_icmp_ne (tgt := 43) hx hb d_Md_some_17 (by decide) (fun hc => ?_) (fun hc => ?_)
      · have hf := op_f hc hf
        obtain ⟨rfl, rfl⟩ := op_i2 hf
        exact K ls (lv_sub hl [] rfl) H locs h
      · have hf := op_t hc hf
        refine lv_aload_n hx hb d_Md_some_20 rfl (lv_at hl 0 rfl) ?_
        refine lv_dup hx hb d_Md_some_21 rfl ?_
        refine mg_5 C h d_Md_some_22 ?_
        refine lv_iconst (v := 1) hx hb d_Md_some_25 (by decide) ?_
        refine lv_iadd hx hb d_Md_some_26 ?_
        refine mp_5 C h d_Md_some_27 (fun H locs h => ?_)
        refine lv_aload_n hx hb d_Md_some_30 rfl (lv_at hl 0 rfl) ?_
        obtain ⟨⟨I7, R8⟩, hc6, hf⟩ := op_bind hf
        try dsimp only at hf
        refine kc_v (rest := []) C h hA (c_Md_every l n fac d hd hfac (upd I 5 ((I 5) + 1)) R) hc6 (cbW 0 hT cd_Md_every rfl rfl ini_Md ml_Md_104 hd_Md_every (rL_ok (by omega) (by decide))) im_Md_every sp_Md_every rfl hl.1 rfl (Nat.le_of_ble_eq_true rfl) d_Md_some_31 ⟨Nat.zero_le _, Nat.zero_le _⟩ (fun H locs h => ?_)
        refine lv_aload_n hx hb d_Md_some_34 rfl (lv_at hl 0 rfl) ?_
        refine lv_bipush (v := (-3)) hx hb d_Md_some_35 (by decide) ?_
        obtain ⟨⟨I10, R11⟩, hc9, hf⟩ := op_bind hf
        try dsimp only at hf
        refine kc_v (rest := []) C h hA (c_Md_emits l n (-3) I7 R8) hc9 (cbW 1 hT cd_Md_emits rfl rfl ini_Md ml_Md_87 hd_Md_emits (rL_c hd (by decide) (by decide))) im_Md_emits sp_Md_emits rfl hl.1 rfl (Nat.le_of_ble_eq_true rfl) d_Md_some_37 ⟨Nat.zero_le _, Nat.zero_le _⟩ (fun H locs h => ?_)
        refine lv_goto (tgt := 4) hx hb d_Md_some_40 (by decide) ?_
        exact ih I10 R11 _ _ hf K ls (lv_sub hl [0] rfl) H locs h
def p_Md_some (n : Nat) (fac : (Nat → Int32) → (Nat → Nat → Int32) → Option MU)  (I : Nat → Int32) (R : Nat → Nat → Int32) : Option (MU) := (p_Md_every n fac I R).bind fun (I2, R3) => (l_Md_some_4 n fac n I2 R3).bind fun (I12, R13) => some (I12, R13)
set_option maxHeartbeats 4000000 in
theorem c_Md_some (l : Launch) (n : Nat) (fac : (Nat → Int32) → (Nat → Nat → Int32) → Option MU) (d : Nat) (hd : 10 ≤ d) (hfac : ∀ (I : Nat → Int32) (R : Nat → Nat → Int32), MMv l y_Md_factor b_Md_factor 5 (rL d) (fun ad adK => []) I R (fac I R))  (I : Nat → Int32) (R : Nat → Nat → Int32)  : MMv l y_Md_some b_Md_some 1 (rL (d + 2)) (fun ad adK => []) I R (p_Md_some n fac I R) := by
  refine en_mv (by decide) rfl (fun _ _ => Nat.le_of_ble_eq_true rfl) ?_
  intro z hf p e s m args below meth c dC dI ad cI cZ A adK adV ls C hA h hr hlk hl
  have hl : lv_has ls 1 [(0, .ref (ad 0))] := hl
  unfold p_Md_some at hf
  obtain ⟨hx, hb, hml, hown, hT, -⟩ := id C
  refine lv_aload_n hx hb d_Md_some_0 rfl (lv_at hl 0 rfl) ?_
  obtain ⟨⟨I2, R3⟩, hc1, hf⟩ := op_bind hf
  try dsimp only at hf
  refine kc_v (rest := []) C h hA (c_Md_every l n fac d hd hfac I R) hc1 (cbW 0 hT cd_Md_every rfl rfl ini_Md ml_Md_104 hd_Md_every (rL_ok (by omega) (by decide))) im_Md_every sp_Md_every rfl hl.1 rfl (Nat.le_of_ble_eq_true rfl) d_Md_some_1 ⟨Nat.zero_le _, Nat.zero_le _⟩ (fun H locs h => ?_)
  obtain ⟨⟨I12, R13⟩, he, hf⟩ := op_bind hf
  try dsimp only at hf
  refine wl_Md_some_4 C hA hr hlk n fac d hd hfac n I2 R3 _ _ he (fun ls hl H locs h => ?_) ls (lv_sub hl [0] rfl) H locs h
  exact rt_mv C h hr hlk hf d_Md_some_43
theorem d_Md_factor_0 : decode b_Md_factor 0 = .ok (.aload_n 0, 1) := by decide +kernel
theorem d_Md_factor_1 : decode b_Md_factor 1 = .ok (.getfield 58, 3) := by decide +kernel
theorem d_Md_factor_4 : decode b_Md_factor 4 = .ok (.ifCond .eq 4, 3) := by decide +kernel
theorem d_Md_factor_7 : decode b_Md_factor 7 = .ok (.return_, 1) := by decide +kernel
theorem d_Md_factor_8 : decode b_Md_factor 8 = .ok (.aload_n 0, 1) := by decide +kernel
theorem d_Md_factor_9 : decode b_Md_factor 9 = .ok (.invokevirtual 62, 3) := by decide +kernel
theorem d_Md_factor_12 : decode b_Md_factor 12 = .ok (.istore_n 1, 1) := by decide +kernel
theorem d_Md_factor_13 : decode b_Md_factor 13 = .ok (.iload_n 1, 1) := by decide +kernel
theorem d_Md_factor_14 : decode b_Md_factor 14 = .ok (.bipush 33, 2) := by decide +kernel
theorem d_Md_factor_16 : decode b_Md_factor 16 = .ok (.if_icmp .eq 9, 3) := by decide +kernel
theorem d_Md_factor_19 : decode b_Md_factor 19 = .ok (.iload_n 1, 1) := by decide +kernel
theorem d_Md_factor_20 : decode b_Md_factor 20 = .ok (.bipush 40, 2) := by decide +kernel
theorem d_Md_factor_22 : decode b_Md_factor 22 = .ok (.if_icmp .ne 90, 3) := by decide +kernel
theorem d_Md_factor_25 : decode b_Md_factor 25 = .ok (.aload_n 0, 1) := by decide +kernel
theorem d_Md_factor_26 : decode b_Md_factor 26 = .ok (.aload_n 0, 1) := by decide +kernel
theorem d_Md_factor_27 : decode b_Md_factor 27 = .ok (.getfield 81, 3) := by decide +kernel
theorem d_Md_factor_30 : decode b_Md_factor 30 = .ok (.iconst 5, 1) := by decide +kernel
theorem d_Md_factor_31 : decode b_Md_factor 31 = .ok (.if_icmp .ne 7, 3) := by decide +kernel
theorem d_Md_factor_34 : decode b_Md_factor 34 = .ok (.iconst 1, 1) := by decide +kernel
theorem d_Md_factor_35 : decode b_Md_factor 35 = .ok (.goto 4, 3) := by decide +kernel
theorem d_Md_factor_38 : decode b_Md_factor 38 = .ok (.iconst 0, 1) := by decide +kernel
theorem d_Md_factor_39 : decode b_Md_factor 39 = .ok (.putfield 58, 3) := by decide +kernel
theorem d_Md_factor_42 : decode b_Md_factor 42 = .ok (.aload_n 0, 1) := by decide +kernel
theorem d_Md_factor_43 : decode b_Md_factor 43 = .ok (.dup, 1) := by decide +kernel
theorem d_Md_factor_44 : decode b_Md_factor 44 = .ok (.getfield 81, 3) := by decide +kernel
theorem d_Md_factor_47 : decode b_Md_factor 47 = .ok (.iconst 1, 1) := by decide +kernel
theorem d_Md_factor_48 : decode b_Md_factor 48 = .ok (.iadd, 1) := by decide +kernel
theorem d_Md_factor_49 : decode b_Md_factor 49 = .ok (.putfield 81, 3) := by decide +kernel
theorem d_Md_factor_52 : decode b_Md_factor 52 = .ok (.aload_n 0, 1) := by decide +kernel
theorem d_Md_factor_53 : decode b_Md_factor 53 = .ok (.dup, 1) := by decide +kernel
theorem d_Md_factor_54 : decode b_Md_factor 54 = .ok (.getfield 52, 3) := by decide +kernel
theorem d_Md_factor_57 : decode b_Md_factor 57 = .ok (.aload_n 0, 1) := by decide +kernel
theorem d_Md_factor_58 : decode b_Md_factor 58 = .ok (.getfield 58, 3) := by decide +kernel
theorem d_Md_factor_61 : decode b_Md_factor 61 = .ok (.ifCond .eq 7, 3) := by decide +kernel
theorem d_Md_factor_64 : decode b_Md_factor 64 = .ok (.iconst 0, 1) := by decide +kernel
theorem d_Md_factor_65 : decode b_Md_factor 65 = .ok (.goto 4, 3) := by decide +kernel
theorem d_Md_factor_68 : decode b_Md_factor 68 = .ok (.iconst 1, 1) := by decide +kernel
theorem d_Md_factor_69 : decode b_Md_factor 69 = .ok (.iadd, 1) := by decide +kernel
theorem d_Md_factor_70 : decode b_Md_factor 70 = .ok (.putfield 52, 3) := by decide +kernel
theorem d_Md_factor_73 : decode b_Md_factor 73 = .ok (.iload_n 1, 1) := by decide +kernel
theorem d_Md_factor_74 : decode b_Md_factor 74 = .ok (.bipush 33, 2) := by decide +kernel
theorem d_Md_factor_76 : decode b_Md_factor 76 = .ok (.if_icmp .ne 15, 3) := by decide +kernel
theorem d_Md_factor_79 : decode b_Md_factor 79 = .ok (.aload_n 0, 1) := by decide +kernel
theorem d_Md_factor_80 : decode b_Md_factor 80 = .ok (.invokevirtual 84, 3) := by decide +kernel
theorem d_Md_factor_83 : decode b_Md_factor 83 = .ok (.aload_n 0, 1) := by decide +kernel
theorem d_Md_factor_84 : decode b_Md_factor 84 = .ok (.iconst (-1), 1) := by decide +kernel
theorem d_Md_factor_85 : decode b_Md_factor 85 = .ok (.invokevirtual 87, 3) := by decide +kernel
theorem d_Md_factor_88 : decode b_Md_factor 88 = .ok (.goto 13, 3) := by decide +kernel
theorem d_Md_factor_91 : decode b_Md_factor 91 = .ok (.aload_n 0, 1) := by decide +kernel
theorem d_Md_factor_92 : decode b_Md_factor 92 = .ok (.invokevirtual 90, 3) := by decide +kernel
theorem d_Md_factor_95 : decode b_Md_factor 95 = .ok (.aload_n 0, 1) := by decide +kernel
theorem d_Md_factor_96 : decode b_Md_factor 96 = .ok (.bipush 41, 2) := by decide +kernel
theorem d_Md_factor_98 : decode b_Md_factor 98 = .ok (.invokevirtual 74, 3) := by decide +kernel
theorem d_Md_factor_101 : decode b_Md_factor 101 = .ok (.aload_n 0, 1) := by decide +kernel
theorem d_Md_factor_102 : decode b_Md_factor 102 = .ok (.dup, 1) := by decide +kernel
theorem d_Md_factor_103 : decode b_Md_factor 103 = .ok (.getfield 81, 3) := by decide +kernel
theorem d_Md_factor_106 : decode b_Md_factor 106 = .ok (.iconst 1, 1) := by decide +kernel
theorem d_Md_factor_107 : decode b_Md_factor 107 = .ok (.isub, 1) := by decide +kernel
theorem d_Md_factor_108 : decode b_Md_factor 108 = .ok (.putfield 81, 3) := by decide +kernel
theorem d_Md_factor_111 : decode b_Md_factor 111 = .ok (.return_, 1) := by decide +kernel
theorem d_Md_factor_112 : decode b_Md_factor 112 = .ok (.aload_n 0, 1) := by decide +kernel
theorem d_Md_factor_113 : decode b_Md_factor 113 = .ok (.ldc 93, 2) := by decide +kernel
theorem d_Md_factor_115 : decode b_Md_factor 115 = .ok (.invokevirtual 95, 3) := by decide +kernel
theorem d_Md_factor_118 : decode b_Md_factor 118 = .ok (.istore_n 2, 1) := by decide +kernel
theorem d_Md_factor_119 : decode b_Md_factor 119 = .ok (.aload_n 0, 1) := by decide +kernel
theorem d_Md_factor_120 : decode b_Md_factor 120 = .ok (.iload_n 2, 1) := by decide +kernel
theorem d_Md_factor_121 : decode b_Md_factor 121 = .ok (.iconst (-1), 1) := by decide +kernel
theorem d_Md_factor_122 : decode b_Md_factor 122 = .ok (.if_icmp .ne 7, 3) := by decide +kernel
theorem d_Md_factor_125 : decode b_Md_factor 125 = .ok (.iconst 1, 1) := by decide +kernel
theorem d_Md_factor_126 : decode b_Md_factor 126 = .ok (.goto 4, 3) := by decide +kernel
theorem d_Md_factor_129 : decode b_Md_factor 129 = .ok (.iconst 0, 1) := by decide +kernel
theorem d_Md_factor_130 : decode b_Md_factor 130 = .ok (.putfield 58, 3) := by decide +kernel
theorem d_Md_factor_133 : decode b_Md_factor 133 = .ok (.aload_n 0, 1) := by decide +kernel
theorem d_Md_factor_134 : decode b_Md_factor 134 = .ok (.getfield 58, 3) := by decide +kernel
theorem d_Md_factor_137 : decode b_Md_factor 137 = .ok (.ifCond .eq 7, 3) := by decide +kernel
theorem d_Md_factor_140 : decode b_Md_factor 140 = .ok (.iconst 0, 1) := by decide +kernel
theorem d_Md_factor_141 : decode b_Md_factor 141 = .ok (.goto 9, 3) := by decide +kernel
theorem d_Md_factor_144 : decode b_Md_factor 144 = .ok (.aload_n 0, 1) := by decide +kernel
theorem d_Md_factor_145 : decode b_Md_factor 145 = .ok (.ldc 99, 2) := by decide +kernel
theorem d_Md_factor_147 : decode b_Md_factor 147 = .ok (.invokevirtual 95, 3) := by decide +kernel
theorem d_Md_factor_150 : decode b_Md_factor 150 = .ok (.istore_n 3, 1) := by decide +kernel
theorem d_Md_factor_151 : decode b_Md_factor 151 = .ok (.aload_n 0, 1) := by decide +kernel
theorem d_Md_factor_152 : decode b_Md_factor 152 = .ok (.aload_n 0, 1) := by decide +kernel
theorem d_Md_factor_153 : decode b_Md_factor 153 = .ok (.getfield 58, 3) := by decide +kernel
theorem d_Md_factor_156 : decode b_Md_factor 156 = .ok (.ifCond .ne 8, 3) := by decide +kernel
theorem d_Md_factor_159 : decode b_Md_factor 159 = .ok (.iload_n 3, 1) := by decide +kernel
theorem d_Md_factor_160 : decode b_Md_factor 160 = .ok (.iconst (-1), 1) := by decide +kernel
theorem d_Md_factor_161 : decode b_Md_factor 161 = .ok (.if_icmp .ne 7, 3) := by decide +kernel
theorem d_Md_factor_164 : decode b_Md_factor 164 = .ok (.iconst 1, 1) := by decide +kernel
theorem d_Md_factor_165 : decode b_Md_factor 165 = .ok (.goto 4, 3) := by decide +kernel
theorem d_Md_factor_168 : decode b_Md_factor 168 = .ok (.iconst 0, 1) := by decide +kernel
theorem d_Md_factor_169 : decode b_Md_factor 169 = .ok (.putfield 58, 3) := by decide +kernel
theorem d_Md_factor_172 : decode b_Md_factor 172 = .ok (.aload_n 0, 1) := by decide +kernel
theorem d_Md_factor_173 : decode b_Md_factor 173 = .ok (.invokevirtual 101, 3) := by decide +kernel
theorem d_Md_factor_176 : decode b_Md_factor 176 = .ok (.istore 4, 2) := by decide +kernel
theorem d_Md_factor_178 : decode b_Md_factor 178 = .ok (.aload_n 0, 1) := by decide +kernel
theorem d_Md_factor_179 : decode b_Md_factor 179 = .ok (.iload_n 2, 1) := by decide +kernel
theorem d_Md_factor_180 : decode b_Md_factor 180 = .ok (.bipush 8, 2) := by decide +kernel
theorem d_Md_factor_182 : decode b_Md_factor 182 = .ok (.iload_n 3, 1) := by decide +kernel
theorem d_Md_factor_183 : decode b_Md_factor 183 = .ok (.imul, 1) := by decide +kernel
theorem d_Md_factor_184 : decode b_Md_factor 184 = .ok (.iadd, 1) := by decide +kernel
theorem d_Md_factor_185 : decode b_Md_factor 185 = .ok (.bipush 32, 2) := by decide +kernel
theorem d_Md_factor_187 : decode b_Md_factor 187 = .ok (.iload 4, 2) := by decide +kernel
theorem d_Md_factor_189 : decode b_Md_factor 189 = .ok (.imul, 1) := by decide +kernel
theorem d_Md_factor_190 : decode b_Md_factor 190 = .ok (.iadd, 1) := by decide +kernel
theorem d_Md_factor_191 : decode b_Md_factor 191 = .ok (.invokevirtual 87, 3) := by decide +kernel
theorem d_Md_factor_194 : decode b_Md_factor 194 = .ok (.return_, 1) := by decide +kernel
def p_Md_factorB (n : Nat) (fac : (Nat → Int32) → (Nat → Nat → Int32) → Option MU)  (I : Nat → Int32) (R : Nat → Nat → Int32) : Option (MU) := (if (I 7) = 0 then (p_Md_here n I R).bind fun x2 => (if x2 = 33 then (if (I 8) = 5 then some 1 else some 0 : Option (Int32)).bind fun x4 => if isZ x4 then (if (((upd (upd I 7 x4) 8 (((upd I 7 x4) 8) + 1))) 7) = 0 then some 1 else some 0 : Option (Int32)).bind fun x7 => (if x2 = 33 then (fac ((upd (upd (upd I 7 x4) 8 (((upd I 7 x4) 8) + 1)) 5 (((((upd (upd I 7 x4) 8 (((upd I 7 x4) 8) + 1))) 5) + x7)))) R).bind fun (I18, R19) => (p_Md_emits n (-1) I18 R19).bind fun (I21, R22) => some (I21, R22) else (p_Md_some n fac ((upd (upd (upd I 7 x4) 8 (((upd I 7 x4) 8) + 1)) 5 (((((upd (upd I 7 x4) 8 (((upd I 7 x4) 8) + 1))) 5) + x7)))) R).bind fun (I12, R13) => (p_Md_must n 41 I12 R13).bind fun (I15, R16) => some (I15, R16) : Option ((Nat → Int32) × (Nat → Nat → Int32))).bind fun (I9, R10) => some ((upd I9 8 ((I9 8) - 1)), R10) else none else (if x2 = 40 then (if (I 8) = 5 then some 1 else some 0 : Option (Int32)).bind fun x49 => if isZ x49 then (if (((upd (upd I 7 x49) 8 (((upd I 7 x49) 8) + 1))) 7) = 0 then some 1 else some 0 : Option (Int32)).bind fun x52 => (if x2 = 33 then (fac ((upd (upd (upd I 7 x49) 8 (((upd I 7 x49) 8) + 1)) 5 (((((upd (upd I 7 x49) 8 (((upd I 7 x49) 8) + 1))) 5) + x52)))) R).bind fun (I63, R64) => (p_Md_emits n (-1) I63 R64).bind fun (I66, R67) => some (I66, R67) else (p_Md_some n fac ((upd (upd (upd I 7 x49) 8 (((upd I 7 x49) 8) + 1)) 5 (((((upd (upd I 7 x49) 8 (((upd I 7 x49) 8) + 1))) 5) + x52)))) R).bind fun (I57, R58) => (p_Md_must n 41 I57 R58).bind fun (I60, R61) => some (I60, R61) : Option ((Nat → Int32) × (Nat → Nat → Int32))).bind fun (I54, R55) => some ((upd I54 8 ((I54 8) - 1)), R55) else none else (p_Md_among n 5 I R).bind fun (x26, I24, R25) => (if x26 = (-1) then some 1 else some 0 : Option (Int32)).bind fun x28 => if isZ x28 then (if ((upd I24 7 x28) 7) = 0 then (p_Md_among n 6 (upd I24 7 x28) R25).bind fun (x37, I35, R36) => some (x37, I35, R36) else some (0, (upd I24 7 x28), R25) : Option (Int32 × (Nat → Int32) × (Nat → Nat → Int32))).bind fun (x31, I32, R33) => (if (I32 7) = 0 then (if x31 = (-1) then some 1 else some 0) else some 1 : Option (Int32)).bind fun x39 => if isZ x39 then (p_Md_figures n (upd I32 7 x39) R33).bind fun (x44, I42, R43) => (p_Md_emits n (((x26 + (8 * x31)) + (32 * x44))) I42 R43).bind fun (I46, R47) => some (I46, R47) else none else none)) else some (I, R))
set_option maxHeartbeats 4000000 in
theorem c_Md_factorB (l : Launch) (n : Nat) (fac : (Nat → Int32) → (Nat → Nat → Int32) → Option MU) (d : Nat) (hd : 10 ≤ d) (hfac : ∀ (I : Nat → Int32) (R : Nat → Nat → Int32), MMv l y_Md_factor b_Md_factor 5 (rL d) (fun ad adK => []) I R (fac I R))  (I : Nat → Int32) (R : Nat → Nat → Int32)  : MMv l y_Md_factor b_Md_factor 5 (rL (d + 3)) (fun ad adK => []) I R (p_Md_factorB n fac I R) := by
  refine en_mv (by decide) rfl (fun _ _ => Nat.le_of_ble_eq_true rfl) ?_
  intro z hf p e s m args below meth c dC dI ad cI cZ A adK adV ls C hA h hr hlk hl
  have hl : lv_has ls 5 [(0, .ref (ad 0))] := hl
  unfold p_Md_factorB at hf
  obtain ⟨hx, hb, hml, hown, hT, -⟩ := id C
  refine lv_aload_n hx hb d_Md_factor_0 rfl (lv_at hl 0 rfl) ?_
  refine mg_7 C h d_Md_factor_1 ?_
  refine lv_if_eq (tgt := 8) hx hb d_Md_factor_4 (by decide) (fun hc => ?_) (fun hc => ?_)
  · have hf := op_t hc hf
    refine lv_aload_n hx hb d_Md_factor_8 rfl (lv_at hl 0 rfl) ?_
    obtain ⟨x2, hc1, hf⟩ := op_bind hf
    refine kc_r (rest := []) C h hA (c_Md_here l n I R) hc1 (cbW 0 hT cd_Md_here rfl rfl ini_Md ml_Md_62 hd_Md_here (rL_c hd (by decide) (by decide))) im_Md_here sp_Md_here rfl hl.1 rfl (Nat.le_of_ble_eq_true rfl) d_Md_factor_9 ⟨Nat.zero_le _, Nat.zero_le _⟩ (fun H locs h => ?_)
    refine lv_istore_n (lv' := [(1, .int x2), (0, .ref (ad 0))]) hx hb d_Md_factor_12 rfl hl (by decide) rfl (fun ls hl => ?_)
    refine lv_iload_n hx hb d_Md_factor_13 rfl (lv_at hl 0 rfl) ?_
    refine lv_bipush (v := 33) hx hb d_Md_factor_14 (by decide) ?_
    refine lv_icmp_eq (tgt := 25) hx hb d_Md_factor_16 (by decide) (fun hc => ?_) (fun hc => ?_)
    · have hf := op_t hc hf
      refine lv_aload_n hx hb d_Md_factor_25 rfl (lv_at hl 1 rfl) ?_
      refine lv_aload_n hx hb d_Md_factor_26 rfl (lv_at hl 1 rfl) ?_
      refine mg_8 C h d_Md_factor_27 ?_
      refine lv_iconst (v := 5) hx hb d_Md_factor_30 (by decide) ?_
      obtain ⟨x4, he, hf⟩ := op_bind hf
      have K3 : ∀ (ls : Array Slot), lv_has ls 5 [(0, .ref (ad 0)), (1, .int x2)] → ∀ (H : Heap) (locs : List Loc), mH A s.heap dC dI ad cI cZ I R H locs → W p l e (rL (d + 3)) s m args below meth c H locs 0 0 (mQv dC dI ad cI cZ A below args s z) (F0 m 39 ls [.int x4, .ref (ad 0)]) := by
        intro ls hl H locs h
        obtain ⟨h5, hf⟩ := op_if hf
        refine mp_7 C h h5 d_Md_factor_39 (fun H locs h => ?_)
        refine lv_aload_n hx hb d_Md_factor_42 rfl (lv_at hl 0 rfl) ?_
        refine lv_dup hx hb d_Md_factor_43 rfl ?_
        refine mg_8 C h d_Md_factor_44 ?_
        refine lv_iconst (v := 1) hx hb d_Md_factor_47 (by decide) ?_
        refine lv_iadd hx hb d_Md_factor_48 ?_
        refine mp_8 C h d_Md_factor_49 (fun H locs h => ?_)
        refine lv_aload_n hx hb d_Md_factor_52 rfl (lv_at hl 0 rfl) ?_
        refine lv_dup hx hb d_Md_factor_53 rfl ?_
        refine mg_5 C h d_Md_factor_54 ?_
        refine lv_aload_n hx hb d_Md_factor_57 rfl (lv_at hl 0 rfl) ?_
        refine mg_7 C h d_Md_factor_58 ?_
        obtain ⟨x7, he, hf⟩ := op_bind hf
        have K6 : ∀ (ls : Array Slot), lv_has ls 5 [(0, .ref (ad 0)), (1, .int x2)] → ∀ (H : Heap) (locs : List Loc), mH A s.heap dC dI ad cI cZ (upd (upd I 7 x4) 8 (((upd I 7 x4) 8) + 1)) R H locs → W p l e (rL (d + 3)) s m args below meth c H locs 0 0 (mQv dC dI ad cI cZ A below args s z) (F0 m 69 ls [.int x7, .int (((upd (upd I 7 x4) 8 (((upd I 7 x4) 8) + 1))) 5), .ref (ad 0)]) := by
          intro ls hl H locs h
          refine lv_iadd hx hb d_Md_factor_69 ?_
          refine mp_5 C h d_Md_factor_70 (fun H locs h => ?_)
          refine lv_iload_n hx hb d_Md_factor_73 rfl (lv_at hl 1 rfl) ?_
          refine lv_bipush (v := 33) hx hb d_Md_factor_74 (by decide) ?_
          obtain ⟨⟨I9, R10⟩, he, hf⟩ := op_bind hf
          try dsimp only at hf
          have K8 : ∀ (ls : Array Slot), lv_has ls 5 [(0, .ref (ad 0))] → ∀ (H : Heap) (locs : List Loc), mH A s.heap dC dI ad cI cZ I9 R10 H locs → W p l e (rL (d + 3)) s m args below meth c H locs 0 0 (mQv dC dI ad cI cZ A below args s z) (F0 m 101 ls []) := by
            intro ls hl H locs h
            refine lv_aload_n hx hb d_Md_factor_101 rfl (lv_at hl 0 rfl) ?_
            refine lv_dup hx hb d_Md_factor_102 rfl ?_
            refine mg_8 C h d_Md_factor_103 ?_
            refine lv_iconst (v := 1) hx hb d_Md_factor_106 (by decide) ?_
            refine lv_isub hx hb d_Md_factor_107 ?_
            refine mp_8 C h d_Md_factor_108 (fun H locs h => ?_)
            exact rt_mv C h hr hlk hf d_Md_factor_111
          have hf := he
          refine lv_icmp_ne (tgt := 91) hx hb d_Md_factor_76 (by decide) (fun hc => ?_) (fun hc => ?_)
          · have hf := op_f hc hf
            refine lv_aload_n hx hb d_Md_factor_91 rfl (lv_at hl 0 rfl) ?_
            obtain ⟨⟨I12, R13⟩, hc11, hf⟩ := op_bind hf
            try dsimp only at hf
            refine kc_v (rest := []) C h hA (c_Md_some l n fac d hd hfac ((upd (upd (upd I 7 x4) 8 (((upd I 7 x4) 8) + 1)) 5 (((((upd (upd I 7 x4) 8 (((upd I 7 x4) 8) + 1))) 5) + x7)))) R) hc11 (cbW 0 hT cd_Md_some rfl rfl ini_Md ml_Md_90 hd_Md_some (rL_ok (by omega) (by decide))) im_Md_some sp_Md_some rfl hl.1 rfl (Nat.le_of_ble_eq_true rfl) d_Md_factor_92 ⟨Nat.zero_le _, Nat.zero_le _⟩ (fun H locs h => ?_)
            refine lv_aload_n hx hb d_Md_factor_95 rfl (lv_at hl 0 rfl) ?_
            refine lv_bipush (v := 41) hx hb d_Md_factor_96 (by decide) ?_
            obtain ⟨⟨I15, R16⟩, hc14, hf⟩ := op_bind hf
            try dsimp only at hf
            refine kc_v (rest := []) C h hA (c_Md_must l n 41 I12 R13) hc14 (cbW 1 hT cd_Md_must rfl rfl ini_Md ml_Md_74 hd_Md_must (rL_c hd (by decide) (by decide))) im_Md_must sp_Md_must rfl hl.1 rfl (Nat.le_of_ble_eq_true rfl) d_Md_factor_98 ⟨Nat.zero_le _, Nat.zero_le _⟩ (fun H locs h => ?_)
            obtain ⟨rfl, rfl⟩ := op_i2 hf
            exact K8 ls (lv_sub hl [0] rfl) H locs h
          · have hf := op_t hc hf
            refine lv_aload_n hx hb d_Md_factor_79 rfl (lv_at hl 0 rfl) ?_
            obtain ⟨⟨I18, R19⟩, hc17, hf⟩ := op_bind hf
            try dsimp only at hf
            refine kc_v (rest := []) C h hA (hfac ((upd (upd (upd I 7 x4) 8 (((upd I 7 x4) 8) + 1)) 5 (((((upd (upd I 7 x4) 8 (((upd I 7 x4) 8) + 1))) 5) + x7)))) R) hc17 (cbW 0 hT cd_Md_factor rfl rfl ini_Md ml_Md_84 hd_Md_factor (rL_ok (by omega) (by decide))) im_Md_factor sp_Md_factor rfl hl.1 rfl (Nat.le_of_ble_eq_true rfl) d_Md_factor_80 ⟨Nat.zero_le _, Nat.zero_le _⟩ (fun H locs h => ?_)
            refine lv_aload_n hx hb d_Md_factor_83 rfl (lv_at hl 0 rfl) ?_
            refine lv_iconst (v := (-1)) hx hb d_Md_factor_84 (by decide) ?_
            obtain ⟨⟨I21, R22⟩, hc20, hf⟩ := op_bind hf
            try dsimp only at hf
            refine kc_v (rest := []) C h hA (c_Md_emits l n (-1) I18 R19) hc20 (cbW 1 hT cd_Md_emits rfl rfl ini_Md ml_Md_87 hd_Md_emits (rL_c hd (by decide) (by decide))) im_Md_emits sp_Md_emits rfl hl.1 rfl (Nat.le_of_ble_eq_true rfl) d_Md_factor_85 ⟨Nat.zero_le _, Nat.zero_le _⟩ (fun H locs h => ?_)
            refine lv_goto (tgt := 101) hx hb d_Md_factor_88 (by decide) ?_
            obtain ⟨rfl, rfl⟩ := op_i2 hf
            exact K8 ls (lv_sub hl [0] rfl) H locs h
        have hf := he
        refine lv_if_eq (tgt := 68) hx hb d_Md_factor_61 (by decide) (fun hc => ?_) (fun hc => ?_)
        · have hf := op_t hc hf
          refine lv_iconst (v := 1) hx hb d_Md_factor_68 (by decide) ?_
          obtain rfl := op_i1 hf
          exact K6 ls (lv_sub hl [0, 1] rfl) H locs h
        · have hf := op_f hc hf
          refine lv_iconst (v := 0) hx hb d_Md_factor_64 (by decide) ?_
          refine lv_goto (tgt := 69) hx hb d_Md_factor_65 (by decide) ?_
          obtain rfl := op_i1 hf
          exact K6 ls (lv_sub hl [0, 1] rfl) H locs h
      have hf := he
      refine lv_icmp_ne (tgt := 38) hx hb d_Md_factor_31 (by decide) (fun hc => ?_) (fun hc => ?_)
      · have hf := op_f hc hf
        refine lv_iconst (v := 0) hx hb d_Md_factor_38 (by decide) ?_
        obtain rfl := op_i1 hf
        exact K3 ls (lv_sub hl [1, 0] rfl) H locs h
      · have hf := op_t hc hf
        refine lv_iconst (v := 1) hx hb d_Md_factor_34 (by decide) ?_
        refine lv_goto (tgt := 39) hx hb d_Md_factor_35 (by decide) ?_
        obtain rfl := op_i1 hf
        exact K3 ls (lv_sub hl [1, 0] rfl) H locs h
    · have hf := op_f hc hf
      refine lv_iload_n hx hb d_Md_factor_19 rfl (lv_at hl 0 rfl) ?_
      refine lv_bipush (v := 40) hx hb d_Md_factor_20 (by decide) ?_
      refine lv_icmp_ne (tgt := 112) hx hb d_Md_factor_22 (by decide) (fun hc => ?_) (fun hc => ?_)
      · have hf := op_f hc hf
        refine lv_aload_n hx hb d_Md_factor_112 rfl (lv_at hl 1 rfl) ?_
        refine va_ldcS hx hb hown (tr_Md_93 C.2.2.2.2.2.2.2) d_Md_factor_113 ?_
        obtain ⟨⟨x26, I24, R25⟩, hc23, hf⟩ := op_bind hf
        try dsimp only at hf
        refine kc_i (rest := []) C h hA (c_Md_among l n 5 I R (by decide)) hc23 (cbW 1 hT cd_Md_among rfl rfl ini_Md ml_Md_95 hd_Md_among (rL_c hd (by decide) (by decide))) im_Md_among sp_Md_among rfl hl.1 rfl (Nat.le_of_ble_eq_true rfl) d_Md_factor_115 ⟨Nat.zero_le _, Nat.zero_le _⟩ (fun H locs h => ?_)
        refine lv_istore_n (lv' := [(2, .int x26), (1, .int x2), (0, .ref (ad 0))]) hx hb d_Md_factor_118 rfl hl (by decide) rfl (fun ls hl => ?_)
        refine lv_aload_n hx hb d_Md_factor_119 rfl (lv_at hl 2 rfl) ?_
        refine lv_iload_n hx hb d_Md_factor_120 rfl (lv_at hl 0 rfl) ?_
        refine lv_iconst (v := (-1)) hx hb d_Md_factor_121 (by decide) ?_
        obtain ⟨x28, he, hf⟩ := op_bind hf
        have K27 : ∀ (ls : Array Slot), lv_has ls 5 [(0, .ref (ad 0)), (2, .int x26)] → ∀ (H : Heap) (locs : List Loc), mH A s.heap dC dI ad cI cZ I24 R25 H locs → W p l e (rL (d + 3)) s m args below meth c H locs 0 0 (mQv dC dI ad cI cZ A below args s z) (F0 m 130 ls [.int x28, .ref (ad 0)]) := by
          intro ls hl H locs h
          obtain ⟨h29, hf⟩ := op_if hf
          refine mp_7 C h h29 d_Md_factor_130 (fun H locs h => ?_)
          refine lv_aload_n hx hb d_Md_factor_133 rfl (lv_at hl 0 rfl) ?_
          refine mg_7 C h d_Md_factor_134 ?_
          obtain ⟨⟨x31, I32, R33⟩, he, hf⟩ := op_bind hf
          try dsimp only at hf
          have K30 : ∀ (ls : Array Slot), lv_has ls 5 [(0, .ref (ad 0)), (2, .int x26)] → ∀ (H : Heap) (locs : List Loc), mH A s.heap dC dI ad cI cZ I32 R33 H locs → W p l e (rL (d + 3)) s m args below meth c H locs 0 0 (mQv dC dI ad cI cZ A below args s z) (F0 m 150 ls [.int x31]) := by
            intro ls hl H locs h
            refine lv_istore_n (lv' := [(3, .int x31), (0, .ref (ad 0)), (2, .int x26)]) hx hb d_Md_factor_150 rfl hl (by decide) rfl (fun ls hl => ?_)
            refine lv_aload_n hx hb d_Md_factor_151 rfl (lv_at hl 1 rfl) ?_
            refine lv_aload_n hx hb d_Md_factor_152 rfl (lv_at hl 1 rfl) ?_
            refine mg_7 C h d_Md_factor_153 ?_
            obtain ⟨x39, he, hf⟩ := op_bind hf
            have K38 : ∀ (ls : Array Slot), lv_has ls 5 [(0, .ref (ad 0)), (2, .int x26), (3, .int x31)] → ∀ (H : Heap) (locs : List Loc), mH A s.heap dC dI ad cI cZ I32 R33 H locs → W p l e (rL (d + 3)) s m args below meth c H locs 0 0 (mQv dC dI ad cI cZ A below args s z) (F0 m 169 ls [.int x39, .ref (ad 0)]) := by
              intro ls hl H locs h
              obtain ⟨h40, hf⟩ := op_if hf
              refine mp_7 C h h40 d_Md_factor_169 (fun H locs h => ?_)
              refine lv_aload_n hx hb d_Md_factor_172 rfl (lv_at hl 0 rfl) ?_
              obtain ⟨⟨x44, I42, R43⟩, hc41, hf⟩ := op_bind hf
              try dsimp only at hf
              refine kc_i (rest := []) C h hA (c_Md_figures l n (upd I32 7 x39) R33) hc41 (cbW 0 hT cd_Md_figures rfl rfl ini_Md ml_Md_101 hd_Md_figures (rL_c hd (by decide) (by decide))) im_Md_figures sp_Md_figures rfl hl.1 rfl (Nat.le_of_ble_eq_true rfl) d_Md_factor_173 ⟨Nat.zero_le _, Nat.zero_le _⟩ (fun H locs h => ?_)
              refine lv_istore (lv' := [(4, .int x44), (0, .ref (ad 0)), (2, .int x26), (3, .int x31)]) hx hb d_Md_factor_176 hl (by decide) rfl (fun ls hl => ?_)
              refine lv_aload_n hx hb d_Md_factor_178 rfl (lv_at hl 1 rfl) ?_
              refine lv_iload_n hx hb d_Md_factor_179 rfl (lv_at hl 2 rfl) ?_
              refine lv_bipush (v := 8) hx hb d_Md_factor_180 (by decide) ?_
              refine lv_iload_n hx hb d_Md_factor_182 rfl (lv_at hl 3 rfl) ?_
              refine lv_imul hx hb d_Md_factor_183 ?_
              refine lv_iadd hx hb d_Md_factor_184 ?_
              refine lv_bipush (v := 32) hx hb d_Md_factor_185 (by decide) ?_
              refine lv_iload hx hb d_Md_factor_187 (lv_at hl 0 rfl) ?_
              refine lv_imul hx hb d_Md_factor_189 ?_
              refine lv_iadd hx hb d_Md_factor_190 ?_
              obtain ⟨⟨I46, R47⟩, hc45, hf⟩ := op_bind hf
              try dsimp only at hf
              refine kc_v (rest := []) C h hA (c_Md_emits l n (((x26 + (8 * x31)) + (32 * x44))) I42 R43) hc45 (cbW 1 hT cd_Md_emits rfl rfl ini_Md ml_Md_87 hd_Md_emits (rL_c hd (by decide) (by decide))) im_Md_emits sp_Md_emits rfl hl.1 rfl (Nat.le_of_ble_eq_true rfl) d_Md_factor_191 ⟨Nat.zero_le _, Nat.zero_le _⟩ (fun H locs h => ?_)
              exact rt_mv C h hr hlk hf d_Md_factor_194
            have hf := he
            refine lv_if_ne (tgt := 164) hx hb d_Md_factor_156 (by decide) (fun hc => ?_) (fun hc => ?_)
            · have hf := op_f hc hf
              refine lv_iconst (v := 1) hx hb d_Md_factor_164 (by decide) ?_
              refine lv_goto (tgt := 169) hx hb d_Md_factor_165 (by decide) ?_
              obtain rfl := op_i1 hf
              exact K38 ls (lv_sub hl [1, 2, 0] rfl) H locs h
            · have hf := op_t hc hf
              refine lv_iload_n hx hb d_Md_factor_159 rfl (lv_at hl 0 rfl) ?_
              refine lv_iconst (v := (-1)) hx hb d_Md_factor_160 (by decide) ?_
              refine lv_icmp_ne (tgt := 168) hx hb d_Md_factor_161 (by decide) (fun hc => ?_) (fun hc => ?_)
              · have hf := op_f hc hf
                refine lv_iconst (v := 0) hx hb d_Md_factor_168 (by decide) ?_
                obtain rfl := op_i1 hf
                exact K38 ls (lv_sub hl [1, 2, 0] rfl) H locs h
              · have hf := op_t hc hf
                refine lv_iconst (v := 1) hx hb d_Md_factor_164 (by decide) ?_
                refine lv_goto (tgt := 169) hx hb d_Md_factor_165 (by decide) ?_
                obtain rfl := op_i1 hf
                exact K38 ls (lv_sub hl [1, 2, 0] rfl) H locs h
          have hf := he
          refine lv_if_eq (tgt := 144) hx hb d_Md_factor_137 (by decide) (fun hc => ?_) (fun hc => ?_)
          · have hf := op_t hc hf
            refine lv_aload_n hx hb d_Md_factor_144 rfl (lv_at hl 0 rfl) ?_
            refine va_ldcS hx hb hown (tr_Md_99 C.2.2.2.2.2.2.2) d_Md_factor_145 ?_
            obtain ⟨⟨x37, I35, R36⟩, hc34, hf⟩ := op_bind hf
            try dsimp only at hf
            refine kc_i (rest := []) C h hA (c_Md_among l n 6 (upd I24 7 x28) R25 (by decide)) hc34 (cbW 1 hT cd_Md_among rfl rfl ini_Md ml_Md_95 hd_Md_among (rL_c hd (by decide) (by decide))) im_Md_among sp_Md_among rfl hl.1 rfl (Nat.le_of_ble_eq_true rfl) d_Md_factor_147 ⟨Nat.zero_le _, Nat.zero_le _⟩ (fun H locs h => ?_)
            obtain ⟨rfl, rfl, rfl⟩ := op_i3 hf
            exact K30 ls (lv_sub hl [0, 1] rfl) H locs h
          · have hf := op_f hc hf
            refine lv_iconst (v := 0) hx hb d_Md_factor_140 (by decide) ?_
            refine lv_goto (tgt := 150) hx hb d_Md_factor_141 (by decide) ?_
            obtain ⟨rfl, rfl, rfl⟩ := op_i3 hf
            exact K30 ls (lv_sub hl [0, 1] rfl) H locs h
        have hf := he
        refine lv_icmp_ne (tgt := 129) hx hb d_Md_factor_122 (by decide) (fun hc => ?_) (fun hc => ?_)
        · have hf := op_f hc hf
          refine lv_iconst (v := 0) hx hb d_Md_factor_129 (by decide) ?_
          obtain rfl := op_i1 hf
          exact K27 ls (lv_sub hl [2, 0] rfl) H locs h
        · have hf := op_t hc hf
          refine lv_iconst (v := 1) hx hb d_Md_factor_125 (by decide) ?_
          refine lv_goto (tgt := 130) hx hb d_Md_factor_126 (by decide) ?_
          obtain rfl := op_i1 hf
          exact K27 ls (lv_sub hl [2, 0] rfl) H locs h
      · have hf := op_t hc hf
        refine lv_aload_n hx hb d_Md_factor_25 rfl (lv_at hl 1 rfl) ?_
        refine lv_aload_n hx hb d_Md_factor_26 rfl (lv_at hl 1 rfl) ?_
        refine mg_8 C h d_Md_factor_27 ?_
        refine lv_iconst (v := 5) hx hb d_Md_factor_30 (by decide) ?_
        obtain ⟨x49, he, hf⟩ := op_bind hf
        have K48 : ∀ (ls : Array Slot), lv_has ls 5 [(0, .ref (ad 0)), (1, .int x2)] → ∀ (H : Heap) (locs : List Loc), mH A s.heap dC dI ad cI cZ I R H locs → W p l e (rL (d + 3)) s m args below meth c H locs 0 0 (mQv dC dI ad cI cZ A below args s z) (F0 m 39 ls [.int x49, .ref (ad 0)]) := by
          intro ls hl H locs h
          obtain ⟨h50, hf⟩ := op_if hf
          refine mp_7 C h h50 d_Md_factor_39 (fun H locs h => ?_)
          refine lv_aload_n hx hb d_Md_factor_42 rfl (lv_at hl 0 rfl) ?_
          refine lv_dup hx hb d_Md_factor_43 rfl ?_
          refine mg_8 C h d_Md_factor_44 ?_
          refine lv_iconst (v := 1) hx hb d_Md_factor_47 (by decide) ?_
          refine lv_iadd hx hb d_Md_factor_48 ?_
          refine mp_8 C h d_Md_factor_49 (fun H locs h => ?_)
          refine lv_aload_n hx hb d_Md_factor_52 rfl (lv_at hl 0 rfl) ?_
          refine lv_dup hx hb d_Md_factor_53 rfl ?_
          refine mg_5 C h d_Md_factor_54 ?_
          refine lv_aload_n hx hb d_Md_factor_57 rfl (lv_at hl 0 rfl) ?_
          refine mg_7 C h d_Md_factor_58 ?_
          obtain ⟨x52, he, hf⟩ := op_bind hf
          have K51 : ∀ (ls : Array Slot), lv_has ls 5 [(0, .ref (ad 0)), (1, .int x2)] → ∀ (H : Heap) (locs : List Loc), mH A s.heap dC dI ad cI cZ (upd (upd I 7 x49) 8 (((upd I 7 x49) 8) + 1)) R H locs → W p l e (rL (d + 3)) s m args below meth c H locs 0 0 (mQv dC dI ad cI cZ A below args s z) (F0 m 69 ls [.int x52, .int (((upd (upd I 7 x49) 8 (((upd I 7 x49) 8) + 1))) 5), .ref (ad 0)]) := by
            intro ls hl H locs h
            refine lv_iadd hx hb d_Md_factor_69 ?_
            refine mp_5 C h d_Md_factor_70 (fun H locs h => ?_)
            refine lv_iload_n hx hb d_Md_factor_73 rfl (lv_at hl 1 rfl) ?_
            refine lv_bipush (v := 33) hx hb d_Md_factor_74 (by decide) ?_
            obtain ⟨⟨I54, R55⟩, he, hf⟩ := op_bind hf
            try dsimp only at hf
            have K53 : ∀ (ls : Array Slot), lv_has ls 5 [(0, .ref (ad 0))] → ∀ (H : Heap) (locs : List Loc), mH A s.heap dC dI ad cI cZ I54 R55 H locs → W p l e (rL (d + 3)) s m args below meth c H locs 0 0 (mQv dC dI ad cI cZ A below args s z) (F0 m 101 ls []) := by
              intro ls hl H locs h
              refine lv_aload_n hx hb d_Md_factor_101 rfl (lv_at hl 0 rfl) ?_
              refine lv_dup hx hb d_Md_factor_102 rfl ?_
              refine mg_8 C h d_Md_factor_103 ?_
              refine lv_iconst (v := 1) hx hb d_Md_factor_106 (by decide) ?_
              refine lv_isub hx hb d_Md_factor_107 ?_
              refine mp_8 C h d_Md_factor_108 (fun H locs h => ?_)
              exact rt_mv C h hr hlk hf d_Md_factor_111
            have hf := he
            refine lv_icmp_ne (tgt := 91) hx hb d_Md_factor_76 (by decide) (fun hc => ?_) (fun hc => ?_)
            · have hf := op_f hc hf
              refine lv_aload_n hx hb d_Md_factor_91 rfl (lv_at hl 0 rfl) ?_
              obtain ⟨⟨I57, R58⟩, hc56, hf⟩ := op_bind hf
              try dsimp only at hf
              refine kc_v (rest := []) C h hA (c_Md_some l n fac d hd hfac ((upd (upd (upd I 7 x49) 8 (((upd I 7 x49) 8) + 1)) 5 (((((upd (upd I 7 x49) 8 (((upd I 7 x49) 8) + 1))) 5) + x52)))) R) hc56 (cbW 0 hT cd_Md_some rfl rfl ini_Md ml_Md_90 hd_Md_some (rL_ok (by omega) (by decide))) im_Md_some sp_Md_some rfl hl.1 rfl (Nat.le_of_ble_eq_true rfl) d_Md_factor_92 ⟨Nat.zero_le _, Nat.zero_le _⟩ (fun H locs h => ?_)
              refine lv_aload_n hx hb d_Md_factor_95 rfl (lv_at hl 0 rfl) ?_
              refine lv_bipush (v := 41) hx hb d_Md_factor_96 (by decide) ?_
              obtain ⟨⟨I60, R61⟩, hc59, hf⟩ := op_bind hf
              try dsimp only at hf
              refine kc_v (rest := []) C h hA (c_Md_must l n 41 I57 R58) hc59 (cbW 1 hT cd_Md_must rfl rfl ini_Md ml_Md_74 hd_Md_must (rL_c hd (by decide) (by decide))) im_Md_must sp_Md_must rfl hl.1 rfl (Nat.le_of_ble_eq_true rfl) d_Md_factor_98 ⟨Nat.zero_le _, Nat.zero_le _⟩ (fun H locs h => ?_)
              obtain ⟨rfl, rfl⟩ := op_i2 hf
              exact K53 ls (lv_sub hl [0] rfl) H locs h
            · have hf := op_t hc hf
              refine lv_aload_n hx hb d_Md_factor_79 rfl (lv_at hl 0 rfl) ?_
              obtain ⟨⟨I63, R64⟩, hc62, hf⟩ := op_bind hf
              try dsimp only at hf
              refine kc_v (rest := []) C h hA (hfac ((upd (upd (upd I 7 x49) 8 (((upd I 7 x49) 8) + 1)) 5 (((((upd (upd I 7 x49) 8 (((upd I 7 x49) 8) + 1))) 5) + x52)))) R) hc62 (cbW 0 hT cd_Md_factor rfl rfl ini_Md ml_Md_84 hd_Md_factor (rL_ok (by omega) (by decide))) im_Md_factor sp_Md_factor rfl hl.1 rfl (Nat.le_of_ble_eq_true rfl) d_Md_factor_80 ⟨Nat.zero_le _, Nat.zero_le _⟩ (fun H locs h => ?_)
              refine lv_aload_n hx hb d_Md_factor_83 rfl (lv_at hl 0 rfl) ?_
              refine lv_iconst (v := (-1)) hx hb d_Md_factor_84 (by decide) ?_
              obtain ⟨⟨I66, R67⟩, hc65, hf⟩ := op_bind hf
              try dsimp only at hf
              refine kc_v (rest := []) C h hA (c_Md_emits l n (-1) I63 R64) hc65 (cbW 1 hT cd_Md_emits rfl rfl ini_Md ml_Md_87 hd_Md_emits (rL_c hd (by decide) (by decide))) im_Md_emits sp_Md_emits rfl hl.1 rfl (Nat.le_of_ble_eq_true rfl) d_Md_factor_85 ⟨Nat.zero_le _, Nat.zero_le _⟩ (fun H locs h => ?_)
              refine lv_goto (tgt := 101) hx hb d_Md_factor_88 (by decide) ?_
              obtain ⟨rfl, rfl⟩ := op_i2 hf
              exact K53 ls (lv_sub hl [0] rfl) H locs h
          have hf := he
          refine lv_if_eq (tgt := 68) hx hb d_Md_factor_61 (by decide) (fun hc => ?_) (fun hc => ?_)
          · have hf := op_t hc hf
            refine lv_iconst (v := 1) hx hb d_Md_factor_68 (by decide) ?_
            obtain rfl := op_i1 hf
            exact K51 ls (lv_sub hl [0, 1] rfl) H locs h
          · have hf := op_f hc hf
            refine lv_iconst (v := 0) hx hb d_Md_factor_64 (by decide) ?_
            refine lv_goto (tgt := 69) hx hb d_Md_factor_65 (by decide) ?_
            obtain rfl := op_i1 hf
            exact K51 ls (lv_sub hl [0, 1] rfl) H locs h
        have hf := he
        refine lv_icmp_ne (tgt := 38) hx hb d_Md_factor_31 (by decide) (fun hc => ?_) (fun hc => ?_)
        · have hf := op_f hc hf
          refine lv_iconst (v := 0) hx hb d_Md_factor_38 (by decide) ?_
          obtain rfl := op_i1 hf
          exact K48 ls (lv_sub hl [1, 0] rfl) H locs h
        · have hf := op_t hc hf
          refine lv_iconst (v := 1) hx hb d_Md_factor_34 (by decide) ?_
          refine lv_goto (tgt := 39) hx hb d_Md_factor_35 (by decide) ?_
          obtain rfl := op_i1 hf
          exact K48 ls (lv_sub hl [1, 0] rfl) H locs h
  · have hf := op_f hc hf
    exact rt_mv C h hr hlk hf d_Md_factor_7
def p_Md_factor (n : Nat) : Nat → (Nat → Int32) → (Nat → Nat → Int32) → Option MU
  | 0 => fun _ _ => none
  | j + 1 => p_Md_factorB n (p_Md_factor n j)
theorem c_Md_factor (l : Launch) (n : Nat) : ∀ (j : Nat) (I : Nat → Int32) (R : Nat → Nat → Int32), MMv l y_Md_factor b_Md_factor 5 (rL (10 + 3 * j)) (fun ad adK => []) I R (p_Md_factor n j I R)
  | 0, I, R => fun z hz => by cases hz
  | j + 1, I, R => c_Md_factorB l n (p_Md_factor n j) (10 + 3 * j) (by omega) (c_Md_factor l n j) I R
def p_Md_someT (n : Nat) (I : Nat → Int32) (R : Nat → Nat → Int32) : Option MU := p_Md_some n (p_Md_factor n 8) I R
theorem c_Md_someT (l : Launch) (n : Nat) (I : Nat → Int32) (R : Nat → Nat → Int32) : MMv l y_Md_some b_Md_some 1 (rL 36) (fun ad adK => []) I R (p_Md_someT n I R) := c_Md_some l n (p_Md_factor n 8) (10 + 3 * 8) (by decide) (c_Md_factor l n 8) I R
