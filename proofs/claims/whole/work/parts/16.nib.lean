theorem hd_Ni_readSingle : y_Ni_readSingle.cls ≠ "java/lang/invoke/MethodHandle" ∧ y_Ni_readSingle.cls ≠ "java/lang/invoke/VarHandle" ∧ (parseMethodDescriptor y_Ni_readSingle.desc).map (fun d => d.parameters.length) = some 1 := by decide +kernel
theorem hd_Ni_readBoth : y_Ni_readBoth.cls ≠ "java/lang/invoke/MethodHandle" ∧ y_Ni_readBoth.cls ≠ "java/lang/invoke/VarHandle" ∧ (parseMethodDescriptor y_Ni_readBoth.desc).map (fun d => d.parameters.length) = some 1 := by decide +kernel
theorem d_Ni_readBoth_0 : decode b_Ni_readBoth 0 = .ok (.aload_n 0, 1) := by decide +kernel
theorem d_Ni_readBoth_1 : decode b_Ni_readBoth 1 = .ok (.iload_n 1, 1) := by decide +kernel
theorem d_Ni_readBoth_2 : decode b_Ni_readBoth 2 = .ok (.invokevirtual 109, 3) := by decide +kernel
theorem d_Ni_readBoth_5 : decode b_Ni_readBoth 5 = .ok (.ifCond .ne 5, 3) := by decide +kernel
theorem d_Ni_readBoth_8 : decode b_Ni_readBoth 8 = .ok (.iconst 0, 1) := by decide +kernel
theorem d_Ni_readBoth_9 : decode b_Ni_readBoth 9 = .ok (.ireturn, 1) := by decide +kernel
theorem d_Ni_readBoth_10 : decode b_Ni_readBoth 10 = .ok (.iconst 0, 1) := by decide +kernel
theorem d_Ni_readBoth_11 : decode b_Ni_readBoth 11 = .ok (.istore_n 2, 1) := by decide +kernel
theorem d_Ni_readBoth_12 : decode b_Ni_readBoth 12 = .ok (.iload_n 2, 1) := by decide +kernel
theorem d_Ni_readBoth_13 : decode b_Ni_readBoth 13 = .ok (.aload_n 0, 1) := by decide +kernel
theorem d_Ni_readBoth_14 : decode b_Ni_readBoth 14 = .ok (.getfield 38, 3) := by decide +kernel
theorem d_Ni_readBoth_17 : decode b_Ni_readBoth 17 = .ok (.arraylength, 1) := by decide +kernel
theorem d_Ni_readBoth_18 : decode b_Ni_readBoth 18 = .ok (.if_icmp .ge 34, 3) := by decide +kernel
theorem d_Ni_readBoth_21 : decode b_Ni_readBoth 21 = .ok (.aload_n 0, 1) := by decide +kernel
theorem d_Ni_readBoth_22 : decode b_Ni_readBoth 22 = .ok (.bipush 38, 2) := by decide +kernel
theorem d_Ni_readBoth_24 : decode b_Ni_readBoth 24 = .ok (.invokevirtual 50, 3) := by decide +kernel
theorem d_Ni_readBoth_27 : decode b_Ni_readBoth 27 = .ok (.ifCond .eq 25, 3) := by decide +kernel
theorem d_Ni_readBoth_30 : decode b_Ni_readBoth 30 = .ok (.aload_n 0, 1) := by decide +kernel
theorem d_Ni_readBoth_31 : decode b_Ni_readBoth 31 = .ok (.iload_n 1, 1) := by decide +kernel
theorem d_Ni_readBoth_32 : decode b_Ni_readBoth 32 = .ok (.invokevirtual 109, 3) := by decide +kernel
theorem d_Ni_readBoth_35 : decode b_Ni_readBoth 35 = .ok (.ifCond .ne 5, 3) := by decide +kernel
theorem d_Ni_readBoth_38 : decode b_Ni_readBoth 38 = .ok (.iconst 0, 1) := by decide +kernel
theorem d_Ni_readBoth_39 : decode b_Ni_readBoth 39 = .ok (.ireturn, 1) := by decide +kernel
theorem d_Ni_readBoth_40 : decode b_Ni_readBoth 40 = .ok (.aload_n 0, 1) := by decide +kernel
theorem d_Ni_readBoth_41 : decode b_Ni_readBoth 41 = .ok (.bipush (-2), 2) := by decide +kernel
theorem d_Ni_readBoth_43 : decode b_Ni_readBoth 43 = .ok (.invokevirtual 105, 3) := by decide +kernel
theorem d_Ni_readBoth_46 : decode b_Ni_readBoth 46 = .ok (.iinc 2 1, 3) := by decide +kernel
theorem d_Ni_readBoth_49 : decode b_Ni_readBoth 49 = .ok (.goto (-37), 3) := by decide +kernel
theorem d_Ni_readBoth_52 : decode b_Ni_readBoth 52 = .ok (.iconst 1, 1) := by decide +kernel
theorem d_Ni_readBoth_53 : decode b_Ni_readBoth 53 = .ok (.ireturn, 1) := by decide +kernel
def l_Ni_readBoth_12 (n : Nat) (tl : Nat) (fac : Int32 → (Nat → Int32) → (Nat → Nat → Int32) → Option (Int32 × MU))  (v1 : Int32)  : Nat → Int32 → (Nat → Int32) → (Nat → Nat → Int32) → Option (Int32 × MU)
  | 0, _, _, _ => none
  | k + 1, v2, I, R => (if (nI tl) ≤ v2 then some (1, I, R) else (p_Ni_take n tl 38 I R).bind fun (x8, I6, R7) => (if x8 = 0 then some (1, I6, R7) else (fac v1 I6 R7).bind fun (x12, I10, R11) => (if x12 = 0 then some (0, I10, R11) else (p_Ni_addCode n tl (-2) I10 R11).bind fun (I14, R15) => l_Ni_readBoth_12 n tl fac v1 k (v2 + 1) I14 R15)))
set_option maxHeartbeats 4000000 in
theorem wl_Ni_readBoth_12  {p : Program} {l : Launch} {e : Env} {s : State} {m : MethodId} {args : Array Value} {below : List Frame} {meth : Method} {c : Code} {dC : Nat → ClassId} {dI : Nat → Nat → Nat} {ad : Nat → Nat} {cI : ClassId} {tl : Nat} {A : Nat → Prop} {adK adV : Nat → Nat} (C : nC p s m args c b_Ni_readBoth 3 dC dI cI tl A adK adV) (hA : ∀ q, s.heap.size ≤ q → A q) (hr : meth.sig.returnType = some .boolean) (hlk : meth.locks = false) (n : Nat) (fac : Int32 → (Nat → Int32) → (Nat → Nat → Int32) → Option (Int32 × MU)) (d : Nat) (hd : 10 ≤ d) (hfac : ∀ (v1 : Int32) (I : Nat → Int32) (R : Nat → Nat → Int32), NMi l y_Ni_readSingle b_Ni_readSingle 3 .boolean (rL d) tl (fun ad adK => [.int v1]) I R (fac v1 I R))  (v1 : Int32)  : ∀ (k : Nat) (v2 : Int32) (I : Nat → Int32) (R : Nat → Nat → Int32) (z : Int32 × MU), l_Ni_readBoth_12 n tl fac v1 k v2 I R = some z → ∀ (ls : Array Slot), lv_has ls 3 [(0, .ref (ad 0)), (1, .int v1), (2, .int v2)] → ∀ (H : Heap) (locs : List Loc), nH A s.heap dC dI ad cI tl I R H locs → W p l e (rL (d + 1)) s m args below meth c H locs 0 0 (nQi dC dI ad cI tl A below args s z) (F0 m 12 ls []) := by
  obtain ⟨hx, hb, hml, hown, hT, -⟩ := id C
  intro k
  induction k with
  | zero => intro v2 I R z hf; exact absurd hf (by unfold l_Ni_readBoth_12; exact fun h9 => by cases h9)
  | succ k ih =>
    intro v2 I R z hf ls hl H locs h
    unfold l_Ni_readBoth_12 at hf
    refine lv_iload_n hx hb d_Ni_readBoth_12 rfl (lv_at hl 2 rfl) ?_
    refine lv_aload_n hx hb d_Ni_readBoth_13 rfl (lv_at hl 0 rfl) ?_
    refine ng_3 C h d_Ni_readBoth_14 ?_
    refine nl_3 C h d_Ni_readBoth_17 ?_
    refine lv_icmp_ge (tgt := 52) hx hb d_Ni_readBoth_18 (by decide) (fun hc => ?_) (fun hc => ?_)
    · have hf := op_t hc hf
      refine lv_iconst (v := 1) hx hb d_Ni_readBoth_52 (by decide) ?_
      exact rt_ni C h hr hlk hf (by decide) d_Ni_readBoth_53
    · have hf := op_f hc hf
      refine lv_aload_n hx hb d_Ni_readBoth_21 rfl (lv_at hl 0 rfl) ?_
      refine lv_bipush (v := 38) hx hb d_Ni_readBoth_22 (by decide) ?_
      obtain ⟨⟨x8, I6, R7⟩, hc5, hf⟩ := op_bind hf
      try dsimp only at hf
      refine kn_i (rest := []) C h hA (c_Ni_take l n tl 38 I R) hc5 (cbW 1 hT cd_Ni_take rfl rfl ini_Ni ml_Ni_50 hd_Ni_take (rL_c hd (by decide) (by decide))) im_Ni_take sp_Ni_take rfl hl.1 rfl (Nat.le_of_ble_eq_true rfl) d_Ni_readBoth_24 ⟨Nat.zero_le _, Nat.zero_le _⟩ (fun H locs h => ?_)
      refine lv_if_eq (tgt := 52) hx hb d_Ni_readBoth_27 (by decide) (fun hc => ?_) (fun hc => ?_)
      · have hf := op_t hc hf
        refine lv_iconst (v := 1) hx hb d_Ni_readBoth_52 (by decide) ?_
        exact rt_ni C h hr hlk hf (by decide) d_Ni_readBoth_53
      · have hf := op_f hc hf
        refine lv_aload_n hx hb d_Ni_readBoth_30 rfl (lv_at hl 0 rfl) ?_
        refine lv_iload_n hx hb d_Ni_readBoth_31 rfl (lv_at hl 1 rfl) ?_
        obtain ⟨⟨x12, I10, R11⟩, hc9, hf⟩ := op_bind hf
        try dsimp only at hf
        refine kn_i (rest := []) C h hA (hfac v1 I6 R7) hc9 (cbW 1 hT cd_Ni_readSingle rfl rfl ini_Ni ml_Ni_109 hd_Ni_readSingle (rL_ok (by omega) (by decide))) im_Ni_readSingle sp_Ni_readSingle rfl hl.1 rfl (Nat.le_of_ble_eq_true rfl) d_Ni_readBoth_32 ⟨Nat.zero_le _, Nat.zero_le _⟩ (fun H locs h => ?_)
        refine lv_if_ne (tgt := 40) hx hb d_Ni_readBoth_35 (by decide) (fun hc => ?_) (fun hc => ?_)
        · have hf := op_f hc hf
          refine lv_aload_n hx hb d_Ni_readBoth_40 rfl (lv_at hl 0 rfl) ?_
          refine lv_bipush (v := (-2)) hx hb d_Ni_readBoth_41 (by decide) ?_
          obtain ⟨⟨I14, R15⟩, hc13, hf⟩ := op_bind hf
          try dsimp only at hf
          refine kn_v (rest := []) C h hA (c_Ni_addCode l n tl (-2) I10 R11) hc13 (cbW 1 hT cd_Ni_addCode rfl rfl ini_Ni ml_Ni_105 hd_Ni_addCode (rL_c hd (by decide) (by decide))) im_Ni_addCode sp_Ni_addCode rfl hl.1 rfl (Nat.le_of_ble_eq_true rfl) d_Ni_readBoth_43 ⟨Nat.zero_le _, Nat.zero_le _⟩ (fun H locs h => ?_)
          refine lv_iinc (v := (v2 + 1)) (lv' := [(2, .int (v2 + 1)), (0, .ref (ad 0)), (1, .int v1)]) hx hb d_Ni_readBoth_46 hl (k := 2) rfl rfl (by decide) rfl (fun ls hl => ?_)
          refine lv_goto (tgt := 12) hx hb d_Ni_readBoth_49 (by decide) ?_
          exact ih (v2 + 1) I14 R15 _ hf ls (lv_sub hl [1, 2, 0] rfl) H locs h
        · have hf := op_t hc hf
          refine lv_iconst (v := 0) hx hb d_Ni_readBoth_38 (by decide) ?_
          exact rt_ni C h hr hlk hf (by decide) d_Ni_readBoth_39
def p_Ni_readBoth (n : Nat) (tl : Nat) (fac : Int32 → (Nat → Int32) → (Nat → Nat → Int32) → Option (Int32 × MU)) (v1 : Int32) (I : Nat → Int32) (R : Nat → Nat → Int32) : Option (Int32 × MU) := (fac v1 I R).bind fun (x4, I2, R3) => (if x4 = 0 then some (0, I2, R3) else l_Ni_readBoth_12 n tl fac v1 n 0 I2 R3)
set_option maxHeartbeats 4000000 in
theorem c_Ni_readBoth (l : Launch) (n : Nat) (tl : Nat) (fac : Int32 → (Nat → Int32) → (Nat → Nat → Int32) → Option (Int32 × MU)) (d : Nat) (hd : 10 ≤ d) (hfac : ∀ (v1 : Int32) (I : Nat → Int32) (R : Nat → Nat → Int32), NMi l y_Ni_readSingle b_Ni_readSingle 3 .boolean (rL d) tl (fun ad adK => [.int v1]) I R (fac v1 I R)) (v1 : Int32) (I : Nat → Int32) (R : Nat → Nat → Int32)  : NMi l y_Ni_readBoth b_Ni_readBoth 3 .boolean (rL (d + 1)) tl (fun ad adK => [.int v1]) I R (p_Ni_readBoth n tl fac v1 I R) := by
  refine en_ni (by decide) rfl (fun _ _ => Nat.le_of_ble_eq_true rfl) ?_
  intro z hf p e s m args below meth c dC dI ad cI A adK adV ls C hA h hr hlk hl
  have hl : lv_has ls 3 [(0, .ref (ad 0)), (1, .int v1)] := hl
  unfold p_Ni_readBoth at hf
  obtain ⟨hx, hb, hml, hown, hT, -⟩ := id C
  refine lv_aload_n hx hb d_Ni_readBoth_0 rfl (lv_at hl 0 rfl) ?_
  refine lv_iload_n hx hb d_Ni_readBoth_1 rfl (lv_at hl 1 rfl) ?_
  obtain ⟨⟨x4, I2, R3⟩, hc1, hf⟩ := op_bind hf
  try dsimp only at hf
  refine kn_i (rest := []) C h hA (hfac v1 I R) hc1 (cbW 1 hT cd_Ni_readSingle rfl rfl ini_Ni ml_Ni_109 hd_Ni_readSingle (rL_ok (by omega) (by decide))) im_Ni_readSingle sp_Ni_readSingle rfl hl.1 rfl (Nat.le_of_ble_eq_true rfl) d_Ni_readBoth_2 ⟨Nat.zero_le _, Nat.zero_le _⟩ (fun H locs h => ?_)
  refine lv_if_ne (tgt := 10) hx hb d_Ni_readBoth_5 (by decide) (fun hc => ?_) (fun hc => ?_)
  · have hf := op_f hc hf
    refine lv_iconst (v := 0) hx hb d_Ni_readBoth_10 (by decide) ?_
    refine lv_istore_n (lv' := [(2, .int 0), (0, .ref (ad 0)), (1, .int v1)]) hx hb d_Ni_readBoth_11 rfl hl (by decide) rfl (fun ls hl => ?_)
    exact wl_Ni_readBoth_12 C hA hr hlk n fac d hd hfac v1 n 0 I2 R3 _ hf ls (lv_sub hl [1, 2, 0] rfl) H locs h
  · have hf := op_t hc hf
    refine lv_iconst (v := 0) hx hb d_Ni_readBoth_8 (by decide) ?_
    exact rt_ni C h hr hlk hf (by decide) d_Ni_readBoth_9
theorem hd_Ni_readEither : y_Ni_readEither.cls ≠ "java/lang/invoke/MethodHandle" ∧ y_Ni_readEither.cls ≠ "java/lang/invoke/VarHandle" ∧ (parseMethodDescriptor y_Ni_readEither.desc).map (fun d => d.parameters.length) = some 1 := by decide +kernel
theorem d_Ni_readEither_0 : decode b_Ni_readEither 0 = .ok (.aload_n 0, 1) := by decide +kernel
theorem d_Ni_readEither_1 : decode b_Ni_readEither 1 = .ok (.iload_n 1, 1) := by decide +kernel
theorem d_Ni_readEither_2 : decode b_Ni_readEither 2 = .ok (.invokevirtual 102, 3) := by decide +kernel
theorem d_Ni_readEither_5 : decode b_Ni_readEither 5 = .ok (.ifCond .ne 5, 3) := by decide +kernel
theorem d_Ni_readEither_8 : decode b_Ni_readEither 8 = .ok (.iconst 0, 1) := by decide +kernel
theorem d_Ni_readEither_9 : decode b_Ni_readEither 9 = .ok (.ireturn, 1) := by decide +kernel
theorem d_Ni_readEither_10 : decode b_Ni_readEither 10 = .ok (.iconst 0, 1) := by decide +kernel
theorem d_Ni_readEither_11 : decode b_Ni_readEither 11 = .ok (.istore_n 2, 1) := by decide +kernel
theorem d_Ni_readEither_12 : decode b_Ni_readEither 12 = .ok (.iload_n 2, 1) := by decide +kernel
theorem d_Ni_readEither_13 : decode b_Ni_readEither 13 = .ok (.aload_n 0, 1) := by decide +kernel
theorem d_Ni_readEither_14 : decode b_Ni_readEither 14 = .ok (.getfield 38, 3) := by decide +kernel
theorem d_Ni_readEither_17 : decode b_Ni_readEither 17 = .ok (.arraylength, 1) := by decide +kernel
theorem d_Ni_readEither_18 : decode b_Ni_readEither 18 = .ok (.if_icmp .ge 34, 3) := by decide +kernel
theorem d_Ni_readEither_21 : decode b_Ni_readEither 21 = .ok (.aload_n 0, 1) := by decide +kernel
theorem d_Ni_readEither_22 : decode b_Ni_readEither 22 = .ok (.bipush 124, 2) := by decide +kernel
theorem d_Ni_readEither_24 : decode b_Ni_readEither 24 = .ok (.invokevirtual 50, 3) := by decide +kernel
theorem d_Ni_readEither_27 : decode b_Ni_readEither 27 = .ok (.ifCond .eq 25, 3) := by decide +kernel
theorem d_Ni_readEither_30 : decode b_Ni_readEither 30 = .ok (.aload_n 0, 1) := by decide +kernel
theorem d_Ni_readEither_31 : decode b_Ni_readEither 31 = .ok (.iload_n 1, 1) := by decide +kernel
theorem d_Ni_readEither_32 : decode b_Ni_readEither 32 = .ok (.invokevirtual 102, 3) := by decide +kernel
theorem d_Ni_readEither_35 : decode b_Ni_readEither 35 = .ok (.ifCond .ne 5, 3) := by decide +kernel
theorem d_Ni_readEither_38 : decode b_Ni_readEither 38 = .ok (.iconst 0, 1) := by decide +kernel
theorem d_Ni_readEither_39 : decode b_Ni_readEither 39 = .ok (.ireturn, 1) := by decide +kernel
theorem d_Ni_readEither_40 : decode b_Ni_readEither 40 = .ok (.aload_n 0, 1) := by decide +kernel
theorem d_Ni_readEither_41 : decode b_Ni_readEither 41 = .ok (.bipush (-3), 2) := by decide +kernel
theorem d_Ni_readEither_43 : decode b_Ni_readEither 43 = .ok (.invokevirtual 105, 3) := by decide +kernel
theorem d_Ni_readEither_46 : decode b_Ni_readEither 46 = .ok (.iinc 2 1, 3) := by decide +kernel
theorem d_Ni_readEither_49 : decode b_Ni_readEither 49 = .ok (.goto (-37), 3) := by decide +kernel
theorem d_Ni_readEither_52 : decode b_Ni_readEither 52 = .ok (.iconst 1, 1) := by decide +kernel
theorem d_Ni_readEither_53 : decode b_Ni_readEither 53 = .ok (.ireturn, 1) := by decide +kernel
def l_Ni_readEither_12 (n : Nat) (tl : Nat) (fac : Int32 → (Nat → Int32) → (Nat → Nat → Int32) → Option (Int32 × MU))  (v1 : Int32)  : Nat → Int32 → (Nat → Int32) → (Nat → Nat → Int32) → Option (Int32 × MU)
  | 0, _, _, _ => none
  | k + 1, v2, I, R => (if (nI tl) ≤ v2 then some (1, I, R) else (p_Ni_take n tl 124 I R).bind fun (x8, I6, R7) => (if x8 = 0 then some (1, I6, R7) else (p_Ni_readBoth n tl fac v1 I6 R7).bind fun (x12, I10, R11) => (if x12 = 0 then some (0, I10, R11) else (p_Ni_addCode n tl (-3) I10 R11).bind fun (I14, R15) => l_Ni_readEither_12 n tl fac v1 k (v2 + 1) I14 R15)))
set_option maxHeartbeats 4000000 in
theorem wl_Ni_readEither_12  {p : Program} {l : Launch} {e : Env} {s : State} {m : MethodId} {args : Array Value} {below : List Frame} {meth : Method} {c : Code} {dC : Nat → ClassId} {dI : Nat → Nat → Nat} {ad : Nat → Nat} {cI : ClassId} {tl : Nat} {A : Nat → Prop} {adK adV : Nat → Nat} (C : nC p s m args c b_Ni_readEither 3 dC dI cI tl A adK adV) (hA : ∀ q, s.heap.size ≤ q → A q) (hr : meth.sig.returnType = some .boolean) (hlk : meth.locks = false) (n : Nat) (fac : Int32 → (Nat → Int32) → (Nat → Nat → Int32) → Option (Int32 × MU)) (d : Nat) (hd : 10 ≤ d) (hfac : ∀ (v1 : Int32) (I : Nat → Int32) (R : Nat → Nat → Int32), NMi l y_Ni_readSingle b_Ni_readSingle 3 .boolean (rL d) tl (fun ad adK => [.int v1]) I R (fac v1 I R))  (v1 : Int32)  : ∀ (k : Nat) (v2 : Int32) (I : Nat → Int32) (R : Nat → Nat → Int32) (z : Int32 × MU), l_Ni_readEither_12 n tl fac v1 k v2 I R = some z → ∀ (ls : Array Slot), lv_has ls 3 [(0, .ref (ad 0)), (1, .int v1), (2, .int v2)] → ∀ (H : Heap) (locs : List Loc), nH A s.heap dC dI ad cI tl I R H locs → W p l e (rL (d + 2)) s m args below meth c H locs 0 0 (nQi dC dI ad cI tl A below args s z) (F0 m 12 ls []) := by
  obtain ⟨hx, hb, hml, hown, hT, -⟩ := id C
  intro k
  induction k with
  | zero => intro v2 I R z hf; exact absurd hf (by unfold l_Ni_readEither_12; exact fun h9 => by cases h9)
  | succ k ih =>
    intro v2 I R z hf ls hl H locs h
    unfold l_Ni_readEither_12 at hf
    refine lv_iload_n hx hb d_Ni_readEither_12 rfl (lv_at hl 2 rfl) ?_
    refine lv_aload_n hx hb d_Ni_readEither_13 rfl (lv_at hl 0 rfl) ?_
    refine ng_3 C h d_Ni_readEither_14 ?_
    refine nl_3 C h d_Ni_readEither_17 ?_
    refine lv_icmp_ge (tgt := 52) hx hb d_Ni_readEither_18 (by decide) (fun hc => ?_) (fun hc => ?_)
    · have hf := op_t hc hf
      refine lv_iconst (v := 1) hx hb d_Ni_readEither_52 (by decide) ?_
      exact rt_ni C h hr hlk hf (by decide) d_Ni_readEither_53
    · have hf := op_f hc hf
      refine lv_aload_n hx hb d_Ni_readEither_21 rfl (lv_at hl 0 rfl) ?_
      refine lv_bipush (v := 124) hx hb d_Ni_readEither_22 (by decide) ?_
      obtain ⟨⟨x8, I6, R7⟩, hc5, hf⟩ := op_bind hf
      try dsimp only at hf
      refine kn_i (rest := []) C h hA (c_Ni_take l n tl 124 I R) hc5 (cbW 1 hT cd_Ni_take rfl rfl ini_Ni ml_Ni_50 hd_Ni_take (rL_c hd (by decide) (by decide))) im_Ni_take sp_Ni_take rfl hl.1 rfl (Nat.le_of_ble_eq_true rfl) d_Ni_readEither_24 ⟨Nat.zero_le _, Nat.zero_le _⟩ (fun H locs h => ?_)
      refine lv_if_eq (tgt := 52) hx hb d_Ni_readEither_27 (by decide) (fun hc => ?_) (fun hc => ?_)
      · have hf := op_t hc hf
        refine lv_iconst (v := 1) hx hb d_Ni_readEither_52 (by decide) ?_
        exact rt_ni C h hr hlk hf (by decide) d_Ni_readEither_53
      · have hf := op_f hc hf
        refine lv_aload_n hx hb d_Ni_readEither_30 rfl (lv_at hl 0 rfl) ?_
        refine lv_iload_n hx hb d_Ni_readEither_31 rfl (lv_at hl 1 rfl) ?_
        obtain ⟨⟨x12, I10, R11⟩, hc9, hf⟩ := op_bind hf
        try dsimp only at hf
        refine kn_i (rest := []) C h hA (c_Ni_readBoth l n tl fac d hd hfac v1 I6 R7) hc9 (cbW 1 hT cd_Ni_readBoth rfl rfl ini_Ni ml_Ni_102 hd_Ni_readBoth (rL_ok (by omega) (by decide))) im_Ni_readBoth sp_Ni_readBoth rfl hl.1 rfl (Nat.le_of_ble_eq_true rfl) d_Ni_readEither_32 ⟨Nat.zero_le _, Nat.zero_le _⟩ (fun H locs h => ?_)
        refine lv_if_ne (tgt := 40) hx hb d_Ni_readEither_35 (by decide) (fun hc => ?_) (fun hc => ?_)
        · have hf := op_f hc hf
          refine lv_aload_n hx hb d_Ni_readEither_40 rfl (lv_at hl 0 rfl) ?_
          refine lv_bipush (v := (-3)) hx hb d_Ni_readEither_41 (by decide) ?_
          obtain ⟨⟨I14, R15⟩, hc13, hf⟩ := op_bind hf
          try dsimp only at hf
          refine kn_v (rest := []) C h hA (c_Ni_addCode l n tl (-3) I10 R11) hc13 (cbW 1 hT cd_Ni_addCode rfl rfl ini_Ni ml_Ni_105 hd_Ni_addCode (rL_c hd (by decide) (by decide))) im_Ni_addCode sp_Ni_addCode rfl hl.1 rfl (Nat.le_of_ble_eq_true rfl) d_Ni_readEither_43 ⟨Nat.zero_le _, Nat.zero_le _⟩ (fun H locs h => ?_)
          refine lv_iinc (v := (v2 + 1)) (lv' := [(2, .int (v2 + 1)), (0, .ref (ad 0)), (1, .int v1)]) hx hb d_Ni_readEither_46 hl (k := 2) rfl rfl (by decide) rfl (fun ls hl => ?_)
          refine lv_goto (tgt := 12) hx hb d_Ni_readEither_49 (by decide) ?_
          exact ih (v2 + 1) I14 R15 _ hf ls (lv_sub hl [1, 2, 0] rfl) H locs h
        · have hf := op_t hc hf
          refine lv_iconst (v := 0) hx hb d_Ni_readEither_38 (by decide) ?_
          exact rt_ni C h hr hlk hf (by decide) d_Ni_readEither_39
def p_Ni_readEither (n : Nat) (tl : Nat) (fac : Int32 → (Nat → Int32) → (Nat → Nat → Int32) → Option (Int32 × MU)) (v1 : Int32) (I : Nat → Int32) (R : Nat → Nat → Int32) : Option (Int32 × MU) := (p_Ni_readBoth n tl fac v1 I R).bind fun (x4, I2, R3) => (if x4 = 0 then some (0, I2, R3) else l_Ni_readEither_12 n tl fac v1 n 0 I2 R3)
set_option maxHeartbeats 4000000 in
theorem c_Ni_readEither (l : Launch) (n : Nat) (tl : Nat) (fac : Int32 → (Nat → Int32) → (Nat → Nat → Int32) → Option (Int32 × MU)) (d : Nat) (hd : 10 ≤ d) (hfac : ∀ (v1 : Int32) (I : Nat → Int32) (R : Nat → Nat → Int32), NMi l y_Ni_readSingle b_Ni_readSingle 3 .boolean (rL d) tl (fun ad adK => [.int v1]) I R (fac v1 I R)) (v1 : Int32) (I : Nat → Int32) (R : Nat → Nat → Int32)  : NMi l y_Ni_readEither b_Ni_readEither 3 .boolean (rL (d + 2)) tl (fun ad adK => [.int v1]) I R (p_Ni_readEither n tl fac v1 I R) := by
  refine en_ni (by decide) rfl (fun _ _ => Nat.le_of_ble_eq_true rfl) ?_
  intro z hf p e s m args below meth c dC dI ad cI A adK adV ls C hA h hr hlk hl
  have hl : lv_has ls 3 [(0, .ref (ad 0)), (1, .int v1)] := hl
  unfold p_Ni_readEither at hf
  obtain ⟨hx, hb, hml, hown, hT, -⟩ := id C
  refine lv_aload_n hx hb d_Ni_readEither_0 rfl (lv_at hl 0 rfl) ?_
  refine lv_iload_n hx hb d_Ni_readEither_1 rfl (lv_at hl 1 rfl) ?_
  obtain ⟨⟨x4, I2, R3⟩, hc1, hf⟩ := op_bind hf
  try dsimp only at hf
  refine kn_i (rest := []) C h hA (c_Ni_readBoth l n tl fac d hd hfac v1 I R) hc1 (cbW 1 hT cd_Ni_readBoth rfl rfl ini_Ni ml_Ni_102 hd_Ni_readBoth (rL_ok (by omega) (by decide))) im_Ni_readBoth sp_Ni_readBoth rfl hl.1 rfl (Nat.le_of_ble_eq_true rfl) d_Ni_readEither_2 ⟨Nat.zero_le _, Nat.zero_le _⟩ (fun H locs h => ?_)
  refine lv_if_ne (tgt := 10) hx hb d_Ni_readEither_5 (by decide) (fun hc => ?_) (fun hc => ?_)
  · have hf := op_f hc hf
    refine lv_iconst (v := 0) hx hb d_Ni_readEither_10 (by decide) ?_
    refine lv_istore_n (lv' := [(2, .int 0), (0, .ref (ad 0)), (1, .int v1)]) hx hb d_Ni_readEither_11 rfl hl (by decide) rfl (fun ls hl => ?_)
    exact wl_Ni_readEither_12 C hA hr hlk n fac d hd hfac v1 n 0 I2 R3 _ hf ls (lv_sub hl [1, 2, 0] rfl) H locs h
  · have hf := op_t hc hf
    refine lv_iconst (v := 0) hx hb d_Ni_readEither_8 (by decide) ?_
    exact rt_ni C h hr hlk hf (by decide) d_Ni_readEither_9
theorem d_Ni_readSingle_0 : decode b_Ni_readSingle 0 = .ok (.aload_n 0, 1) := by decide +kernel
theorem d_Ni_readSingle_1 : decode b_Ni_readSingle 1 = .ok (.aload_n 0, 1) := by decide +kernel
theorem d_Ni_readSingle_2 : decode b_Ni_readSingle 2 = .ok (.getfield 54, 3) := by decide +kernel
theorem d_Ni_readSingle_5 : decode b_Ni_readSingle 5 = .ok (.invokevirtual 78, 3) := by decide +kernel
theorem d_Ni_readSingle_8 : decode b_Ni_readSingle 8 = .ok (.istore_n 2, 1) := by decide +kernel
theorem d_Ni_readSingle_9 : decode b_Ni_readSingle 9 = .ok (.iload_n 2, 1) := by decide +kernel
theorem d_Ni_readSingle_10 : decode b_Ni_readSingle 10 = .ok (.bipush 33, 2) := by decide +kernel
theorem d_Ni_readSingle_12 : decode b_Ni_readSingle 12 = .ok (.if_icmp .eq 14, 3) := by decide +kernel
theorem d_Ni_readSingle_15 : decode b_Ni_readSingle 15 = .ok (.iload_n 2, 1) := by decide +kernel
theorem d_Ni_readSingle_16 : decode b_Ni_readSingle 16 = .ok (.bipush 40, 2) := by decide +kernel
theorem d_Ni_readSingle_18 : decode b_Ni_readSingle 18 = .ok (.if_icmp .eq 8, 3) := by decide +kernel
theorem d_Ni_readSingle_21 : decode b_Ni_readSingle 21 = .ok (.aload_n 0, 1) := by decide +kernel
theorem d_Ni_readSingle_22 : decode b_Ni_readSingle 22 = .ok (.invokevirtual 112, 3) := by decide +kernel
theorem d_Ni_readSingle_25 : decode b_Ni_readSingle 25 = .ok (.ireturn, 1) := by decide +kernel
theorem d_Ni_readSingle_26 : decode b_Ni_readSingle 26 = .ok (.iload_n 1, 1) := by decide +kernel
theorem d_Ni_readSingle_27 : decode b_Ni_readSingle 27 = .ok (.iconst 5, 1) := by decide +kernel
theorem d_Ni_readSingle_28 : decode b_Ni_readSingle 28 = .ok (.if_icmp .lt 5, 3) := by decide +kernel
theorem d_Ni_readSingle_31 : decode b_Ni_readSingle 31 = .ok (.iconst 0, 1) := by decide +kernel
theorem d_Ni_readSingle_32 : decode b_Ni_readSingle 32 = .ok (.ireturn, 1) := by decide +kernel
theorem d_Ni_readSingle_33 : decode b_Ni_readSingle 33 = .ok (.aload_n 0, 1) := by decide +kernel
theorem d_Ni_readSingle_34 : decode b_Ni_readSingle 34 = .ok (.dup, 1) := by decide +kernel
theorem d_Ni_readSingle_35 : decode b_Ni_readSingle 35 = .ok (.getfield 54, 3) := by decide +kernel
theorem d_Ni_readSingle_38 : decode b_Ni_readSingle 38 = .ok (.iconst 1, 1) := by decide +kernel
theorem d_Ni_readSingle_39 : decode b_Ni_readSingle 39 = .ok (.iadd, 1) := by decide +kernel
theorem d_Ni_readSingle_40 : decode b_Ni_readSingle 40 = .ok (.putfield 54, 3) := by decide +kernel
theorem d_Ni_readSingle_43 : decode b_Ni_readSingle 43 = .ok (.iload_n 2, 1) := by decide +kernel
theorem d_Ni_readSingle_44 : decode b_Ni_readSingle 44 = .ok (.bipush 40, 2) := by decide +kernel
theorem d_Ni_readSingle_46 : decode b_Ni_readSingle 46 = .ok (.if_icmp .ne 28, 3) := by decide +kernel
theorem d_Ni_readSingle_49 : decode b_Ni_readSingle 49 = .ok (.aload_n 0, 1) := by decide +kernel
theorem d_Ni_readSingle_50 : decode b_Ni_readSingle 50 = .ok (.iload_n 1, 1) := by decide +kernel
theorem d_Ni_readSingle_51 : decode b_Ni_readSingle 51 = .ok (.iconst 1, 1) := by decide +kernel
theorem d_Ni_readSingle_52 : decode b_Ni_readSingle 52 = .ok (.iadd, 1) := by decide +kernel
theorem d_Ni_readSingle_53 : decode b_Ni_readSingle 53 = .ok (.invokevirtual 64, 3) := by decide +kernel
theorem d_Ni_readSingle_56 : decode b_Ni_readSingle 56 = .ok (.ifCond .eq 16, 3) := by decide +kernel
theorem d_Ni_readSingle_59 : decode b_Ni_readSingle 59 = .ok (.aload_n 0, 1) := by decide +kernel
theorem d_Ni_readSingle_60 : decode b_Ni_readSingle 60 = .ok (.bipush 41, 2) := by decide +kernel
theorem d_Ni_readSingle_62 : decode b_Ni_readSingle 62 = .ok (.invokevirtual 50, 3) := by decide +kernel
theorem d_Ni_readSingle_65 : decode b_Ni_readSingle 65 = .ok (.ifCond .eq 7, 3) := by decide +kernel
theorem d_Ni_readSingle_68 : decode b_Ni_readSingle 68 = .ok (.iconst 1, 1) := by decide +kernel
theorem d_Ni_readSingle_69 : decode b_Ni_readSingle 69 = .ok (.goto 4, 3) := by decide +kernel
theorem d_Ni_readSingle_72 : decode b_Ni_readSingle 72 = .ok (.iconst 0, 1) := by decide +kernel
theorem d_Ni_readSingle_73 : decode b_Ni_readSingle 73 = .ok (.ireturn, 1) := by decide +kernel
theorem d_Ni_readSingle_74 : decode b_Ni_readSingle 74 = .ok (.aload_n 0, 1) := by decide +kernel
theorem d_Ni_readSingle_75 : decode b_Ni_readSingle 75 = .ok (.iload_n 1, 1) := by decide +kernel
theorem d_Ni_readSingle_76 : decode b_Ni_readSingle 76 = .ok (.iconst 1, 1) := by decide +kernel
theorem d_Ni_readSingle_77 : decode b_Ni_readSingle 77 = .ok (.iadd, 1) := by decide +kernel
theorem d_Ni_readSingle_78 : decode b_Ni_readSingle 78 = .ok (.invokevirtual 109, 3) := by decide +kernel
theorem d_Ni_readSingle_81 : decode b_Ni_readSingle 81 = .ok (.ifCond .ne 5, 3) := by decide +kernel
theorem d_Ni_readSingle_84 : decode b_Ni_readSingle 84 = .ok (.iconst 0, 1) := by decide +kernel
theorem d_Ni_readSingle_85 : decode b_Ni_readSingle 85 = .ok (.ireturn, 1) := by decide +kernel
theorem d_Ni_readSingle_86 : decode b_Ni_readSingle 86 = .ok (.aload_n 0, 1) := by decide +kernel
theorem d_Ni_readSingle_87 : decode b_Ni_readSingle 87 = .ok (.iconst (-1), 1) := by decide +kernel
theorem d_Ni_readSingle_88 : decode b_Ni_readSingle 88 = .ok (.invokevirtual 105, 3) := by decide +kernel
theorem d_Ni_readSingle_91 : decode b_Ni_readSingle 91 = .ok (.iconst 1, 1) := by decide +kernel
theorem d_Ni_readSingle_92 : decode b_Ni_readSingle 92 = .ok (.ireturn, 1) := by decide +kernel
def p_Ni_readSingleB (n : Nat) (tl : Nat) (fac : Int32 → (Nat → Int32) → (Nat → Nat → Int32) → Option (Int32 × MU)) (v1 : Int32) (I : Nat → Int32) (R : Nat → Nat → Int32) : Option (Int32 × MU) := (p_Ni_signAt n tl (I 4) I R).bind fun x2 => (if x2 = 33 then (if v1 < 5 then (if x2 = 40 then (p_Ni_readEither n tl fac (v1 + 1) (upd I 4 ((I 4) + 1)) R).bind fun (x13, I11, R12) => (if x13 = 0 then some (0, I11, R12) else (p_Ni_take n tl 41 I11 R12).bind fun (x21, I19, R20) => (if x21 = 0 then some (0, I19, R20) else some (1, I19, R20)) : Option (Int32 × (Nat → Int32) × (Nat → Nat → Int32))).bind fun (x15, I16, R17) => if isZ x15 then some (x15, I16, R17) else none else (fac (v1 + 1) (upd I 4 ((I 4) + 1)) R).bind fun (x6, I4, R5) => (if x6 = 0 then some (0, I4, R5) else (p_Ni_addCode n tl (-1) I4 R5).bind fun (I8, R9) => some (1, I8, R9))) else some (0, I, R)) else (if x2 = 40 then (if v1 < 5 then (if x2 = 40 then (p_Ni_readEither n tl fac (v1 + 1) (upd I 4 ((I 4) + 1)) R).bind fun (x33, I31, R32) => (if x33 = 0 then some (0, I31, R32) else (p_Ni_take n tl 41 I31 R32).bind fun (x41, I39, R40) => (if x41 = 0 then some (0, I39, R40) else some (1, I39, R40)) : Option (Int32 × (Nat → Int32) × (Nat → Nat → Int32))).bind fun (x35, I36, R37) => if isZ x35 then some (x35, I36, R37) else none else (fac (v1 + 1) (upd I 4 ((I 4) + 1)) R).bind fun (x26, I24, R25) => (if x26 = 0 then some (0, I24, R25) else (p_Ni_addCode n tl (-1) I24 R25).bind fun (I28, R29) => some (1, I28, R29))) else some (0, I, R)) else (p_Ni_readTest n tl I R).bind fun (x46, I44, R45) => if isZ x46 then some (x46, I44, R45) else none))
set_option maxHeartbeats 4000000 in
theorem c_Ni_readSingleB (l : Launch) (n : Nat) (tl : Nat) (fac : Int32 → (Nat → Int32) → (Nat → Nat → Int32) → Option (Int32 × MU)) (d : Nat) (hd : 10 ≤ d) (hfac : ∀ (v1 : Int32) (I : Nat → Int32) (R : Nat → Nat → Int32), NMi l y_Ni_readSingle b_Ni_readSingle 3 .boolean (rL d) tl (fun ad adK => [.int v1]) I R (fac v1 I R)) (v1 : Int32) (I : Nat → Int32) (R : Nat → Nat → Int32)  : NMi l y_Ni_readSingle b_Ni_readSingle 3 .boolean (rL (d + 3)) tl (fun ad adK => [.int v1]) I R (p_Ni_readSingleB n tl fac v1 I R) := by
  refine en_ni (by decide) rfl (fun _ _ => Nat.le_of_ble_eq_true rfl) ?_
  intro z hf p e s m args below meth c dC dI ad cI A adK adV ls C hA h hr hlk hl
  have hl : lv_has ls 3 [(0, .ref (ad 0)), (1, .int v1)] := hl
  unfold p_Ni_readSingleB at hf
  obtain ⟨hx, hb, hml, hown, hT, -⟩ := id C
  refine lv_aload_n hx hb d_Ni_readSingle_0 rfl (lv_at hl 0 rfl) ?_
  refine lv_aload_n hx hb d_Ni_readSingle_1 rfl (lv_at hl 0 rfl) ?_
  refine ng_4 C h d_Ni_readSingle_2 ?_
  obtain ⟨x2, hc1, hf⟩ := op_bind hf
  refine kn_r (rest := []) C h hA (c_Ni_signAt l n tl (I 4) I R) hc1 (cbW 1 hT cd_Ni_signAt rfl rfl ini_Ni ml_Ni_78 hd_Ni_signAt (rL_c hd (by decide) (by decide))) im_Ni_signAt sp_Ni_signAt rfl hl.1 rfl (Nat.le_of_ble_eq_true rfl) d_Ni_readSingle_5 ⟨Nat.zero_le _, Nat.zero_le _⟩ (fun H locs h => ?_)
  refine lv_istore_n (lv' := [(2, .int x2), (0, .ref (ad 0)), (1, .int v1)]) hx hb d_Ni_readSingle_8 rfl hl (by decide) rfl (fun ls hl => ?_)
  refine lv_iload_n hx hb d_Ni_readSingle_9 rfl (lv_at hl 0 rfl) ?_
  refine lv_bipush (v := 33) hx hb d_Ni_readSingle_10 (by decide) ?_
  refine lv_icmp_eq (tgt := 26) hx hb d_Ni_readSingle_12 (by decide) (fun hc => ?_) (fun hc => ?_)
  · have hf := op_t hc hf
    refine lv_iload_n hx hb d_Ni_readSingle_26 rfl (lv_at hl 2 rfl) ?_
    refine lv_iconst (v := 5) hx hb d_Ni_readSingle_27 (by decide) ?_
    refine lv_icmp_lt (tgt := 33) hx hb d_Ni_readSingle_28 (by decide) (fun hc => ?_) (fun hc => ?_)
    · have hf := op_t hc hf
      refine lv_aload_n hx hb d_Ni_readSingle_33 rfl (lv_at hl 1 rfl) ?_
      refine lv_dup hx hb d_Ni_readSingle_34 rfl ?_
      refine ng_4 C h d_Ni_readSingle_35 ?_
      refine lv_iconst (v := 1) hx hb d_Ni_readSingle_38 (by decide) ?_
      refine lv_iadd hx hb d_Ni_readSingle_39 ?_
      refine np_4 C h d_Ni_readSingle_40 (fun H locs h => ?_)
      refine lv_iload_n hx hb d_Ni_readSingle_43 rfl (lv_at hl 0 rfl) ?_
      refine lv_bipush (v := 40) hx hb d_Ni_readSingle_44 (by decide) ?_
      refine lv_icmp_ne (tgt := 74) hx hb d_Ni_readSingle_46 (by decide) (fun hc => ?_) (fun hc => ?_)
      · have hf := op_f hc hf
        refine lv_aload_n hx hb d_Ni_readSingle_74 rfl (lv_at hl 1 rfl) ?_
        refine lv_iload_n hx hb d_Ni_readSingle_75 rfl (lv_at hl 2 rfl) ?_
        refine lv_iconst (v := 1) hx hb d_Ni_readSingle_76 (by decide) ?_
        refine lv_iadd hx hb d_Ni_readSingle_77 ?_
        obtain ⟨⟨x6, I4, R5⟩, hc3, hf⟩ := op_bind hf
        try dsimp only at hf
        refine kn_i (rest := []) C h hA (hfac (v1 + 1) (upd I 4 ((I 4) + 1)) R) hc3 (cbW 1 hT cd_Ni_readSingle rfl rfl ini_Ni ml_Ni_109 hd_Ni_readSingle (rL_ok (by omega) (by decide))) im_Ni_readSingle sp_Ni_readSingle rfl hl.1 rfl (Nat.le_of_ble_eq_true rfl) d_Ni_readSingle_78 ⟨Nat.zero_le _, Nat.zero_le _⟩ (fun H locs h => ?_)
        refine lv_if_ne (tgt := 86) hx hb d_Ni_readSingle_81 (by decide) (fun hc => ?_) (fun hc => ?_)
        · have hf := op_f hc hf
          refine lv_aload_n hx hb d_Ni_readSingle_86 rfl (lv_at hl 1 rfl) ?_
          refine lv_iconst (v := (-1)) hx hb d_Ni_readSingle_87 (by decide) ?_
          obtain ⟨⟨I8, R9⟩, hc7, hf⟩ := op_bind hf
          try dsimp only at hf
          refine kn_v (rest := []) C h hA (c_Ni_addCode l n tl (-1) I4 R5) hc7 (cbW 1 hT cd_Ni_addCode rfl rfl ini_Ni ml_Ni_105 hd_Ni_addCode (rL_c hd (by decide) (by decide))) im_Ni_addCode sp_Ni_addCode rfl hl.1 rfl (Nat.le_of_ble_eq_true rfl) d_Ni_readSingle_88 ⟨Nat.zero_le _, Nat.zero_le _⟩ (fun H locs h => ?_)
          refine lv_iconst (v := 1) hx hb d_Ni_readSingle_91 (by decide) ?_
          exact rt_ni C h hr hlk hf (by decide) d_Ni_readSingle_92
        · have hf := op_t hc hf
          refine lv_iconst (v := 0) hx hb d_Ni_readSingle_84 (by decide) ?_
          exact rt_ni C h hr hlk hf (by decide) d_Ni_readSingle_85
      · have hf := op_t hc hf
        refine lv_aload_n hx hb d_Ni_readSingle_49 rfl (lv_at hl 1 rfl) ?_
        refine lv_iload_n hx hb d_Ni_readSingle_50 rfl (lv_at hl 2 rfl) ?_
        refine lv_iconst (v := 1) hx hb d_Ni_readSingle_51 (by decide) ?_
        refine lv_iadd hx hb d_Ni_readSingle_52 ?_
        obtain ⟨⟨x13, I11, R12⟩, hc10, hf⟩ := op_bind hf
        try dsimp only at hf
        refine kn_i (rest := []) C h hA (c_Ni_readEither l n tl fac d hd hfac (v1 + 1) (upd I 4 ((I 4) + 1)) R) hc10 (cbW 1 hT cd_Ni_readEither rfl rfl ini_Ni ml_Ni_64 hd_Ni_readEither (rL_ok (by omega) (by decide))) im_Ni_readEither sp_Ni_readEither rfl hl.1 rfl (Nat.le_of_ble_eq_true rfl) d_Ni_readSingle_53 ⟨Nat.zero_le _, Nat.zero_le _⟩ (fun H locs h => ?_)
        obtain ⟨⟨x15, I16, R17⟩, he, hf⟩ := op_bind hf
        try dsimp only at hf
        have K14 : ∀ (ls : Array Slot), lv_has ls 3 [] → ∀ (H : Heap) (locs : List Loc), nH A s.heap dC dI ad cI tl I16 R17 H locs → W p l e (rL (d + 3)) s m args below meth c H locs 0 0 (nQi dC dI ad cI tl A below args s z) (F0 m 73 ls [.int x15]) := by
          intro ls hl H locs h
          obtain ⟨h22, hf⟩ := op_if hf
          exact rt_ni C h hr hlk hf (isZ_nar h22) d_Ni_readSingle_73
        have hf := he
        refine lv_if_eq (tgt := 72) hx hb d_Ni_readSingle_56 (by decide) (fun hc => ?_) (fun hc => ?_)
        · have hf := op_t hc hf
          refine lv_iconst (v := 0) hx hb d_Ni_readSingle_72 (by decide) ?_
          obtain ⟨rfl, rfl, rfl⟩ := op_i3 hf
          exact K14 ls (lv_sub hl [] rfl) H locs h
        · have hf := op_f hc hf
          refine lv_aload_n hx hb d_Ni_readSingle_59 rfl (lv_at hl 1 rfl) ?_
          refine lv_bipush (v := 41) hx hb d_Ni_readSingle_60 (by decide) ?_
          obtain ⟨⟨x21, I19, R20⟩, hc18, hf⟩ := op_bind hf
          try dsimp only at hf
          refine kn_i (rest := []) C h hA (c_Ni_take l n tl 41 I11 R12) hc18 (cbW 1 hT cd_Ni_take rfl rfl ini_Ni ml_Ni_50 hd_Ni_take (rL_c hd (by decide) (by decide))) im_Ni_take sp_Ni_take rfl hl.1 rfl (Nat.le_of_ble_eq_true rfl) d_Ni_readSingle_62 ⟨Nat.zero_le _, Nat.zero_le _⟩ (fun H locs h => ?_)
          refine lv_if_eq (tgt := 72) hx hb d_Ni_readSingle_65 (by decide) (fun hc => ?_) (fun hc => ?_)
          · have hf := op_t hc hf
            refine lv_iconst (v := 0) hx hb d_Ni_readSingle_72 (by decide) ?_
            obtain ⟨rfl, rfl, rfl⟩ := op_i3 hf
            exact K14 ls (lv_sub hl [] rfl) H locs h
          · have hf := op_f hc hf
            refine lv_iconst (v := 1) hx hb d_Ni_readSingle_68 (by decide) ?_
            refine lv_goto (tgt := 73) hx hb d_Ni_readSingle_69 (by decide) ?_
            obtain ⟨rfl, rfl, rfl⟩ := op_i3 hf
            exact K14 ls (lv_sub hl [] rfl) H locs h
    · have hf := op_f hc hf
      refine lv_iconst (v := 0) hx hb d_Ni_readSingle_31 (by decide) ?_
      exact rt_ni C h hr hlk hf (by decide) d_Ni_readSingle_32
  · have hf := op_f hc hf
    refine lv_iload_n hx hb d_Ni_readSingle_15 rfl (lv_at hl 0 rfl) ?_
    refine lv_bipush (v := 40) hx hb d_Ni_readSingle_16 (by decide) ?_
    refine lv_icmp_eq (tgt := 26) hx hb d_Ni_readSingle_18 (by decide) (fun hc => ?_) (fun hc => ?_)
    · have hf := op_t hc hf
      refine lv_iload_n hx hb d_Ni_readSingle_26 rfl (lv_at hl 2 rfl) ?_
      refine lv_iconst (v := 5) hx hb d_Ni_readSingle_27 (by decide) ?_
      refine lv_icmp_lt (tgt := 33) hx hb d_Ni_readSingle_28 (by decide) (fun hc => ?_) (fun hc => ?_)
      · have hf := op_t hc hf
        refine lv_aload_n hx hb d_Ni_readSingle_33 rfl (lv_at hl 1 rfl) ?_
        refine lv_dup hx hb d_Ni_readSingle_34 rfl ?_
        refine ng_4 C h d_Ni_readSingle_35 ?_
        refine lv_iconst (v := 1) hx hb d_Ni_readSingle_38 (by decide) ?_
        refine lv_iadd hx hb d_Ni_readSingle_39 ?_
        refine np_4 C h d_Ni_readSingle_40 (fun H locs h => ?_)
        refine lv_iload_n hx hb d_Ni_readSingle_43 rfl (lv_at hl 0 rfl) ?_
        refine lv_bipush (v := 40) hx hb d_Ni_readSingle_44 (by decide) ?_
        refine lv_icmp_ne (tgt := 74) hx hb d_Ni_readSingle_46 (by decide) (fun hc => ?_) (fun hc => ?_)
        · have hf := op_f hc hf
          refine lv_aload_n hx hb d_Ni_readSingle_74 rfl (lv_at hl 1 rfl) ?_
          refine lv_iload_n hx hb d_Ni_readSingle_75 rfl (lv_at hl 2 rfl) ?_
          refine lv_iconst (v := 1) hx hb d_Ni_readSingle_76 (by decide) ?_
          refine lv_iadd hx hb d_Ni_readSingle_77 ?_
          obtain ⟨⟨x26, I24, R25⟩, hc23, hf⟩ := op_bind hf
          try dsimp only at hf
          refine kn_i (rest := []) C h hA (hfac (v1 + 1) (upd I 4 ((I 4) + 1)) R) hc23 (cbW 1 hT cd_Ni_readSingle rfl rfl ini_Ni ml_Ni_109 hd_Ni_readSingle (rL_ok (by omega) (by decide))) im_Ni_readSingle sp_Ni_readSingle rfl hl.1 rfl (Nat.le_of_ble_eq_true rfl) d_Ni_readSingle_78 ⟨Nat.zero_le _, Nat.zero_le _⟩ (fun H locs h => ?_)
          refine lv_if_ne (tgt := 86) hx hb d_Ni_readSingle_81 (by decide) (fun hc => ?_) (fun hc => ?_)
          · have hf := op_f hc hf
            refine lv_aload_n hx hb d_Ni_readSingle_86 rfl (lv_at hl 1 rfl) ?_
            refine lv_iconst (v := (-1)) hx hb d_Ni_readSingle_87 (by decide) ?_
            obtain ⟨⟨I28, R29⟩, hc27, hf⟩ := op_bind hf
            try dsimp only at hf
            refine kn_v (rest := []) C h hA (c_Ni_addCode l n tl (-1) I24 R25) hc27 (cbW 1 hT cd_Ni_addCode rfl rfl ini_Ni ml_Ni_105 hd_Ni_addCode (rL_c hd (by decide) (by decide))) im_Ni_addCode sp_Ni_addCode rfl hl.1 rfl (Nat.le_of_ble_eq_true rfl) d_Ni_readSingle_88 ⟨Nat.zero_le _, Nat.zero_le _⟩ (fun H locs h => ?_)
            refine lv_iconst (v := 1) hx hb d_Ni_readSingle_91 (by decide) ?_
            exact rt_ni C h hr hlk hf (by decide) d_Ni_readSingle_92
          · have hf := op_t hc hf
            refine lv_iconst (v := 0) hx hb d_Ni_readSingle_84 (by decide) ?_
            exact rt_ni C h hr hlk hf (by decide) d_Ni_readSingle_85
        · have hf := op_t hc hf
          refine lv_aload_n hx hb d_Ni_readSingle_49 rfl (lv_at hl 1 rfl) ?_
          refine lv_iload_n hx hb d_Ni_readSingle_50 rfl (lv_at hl 2 rfl) ?_
          refine lv_iconst (v := 1) hx hb d_Ni_readSingle_51 (by decide) ?_
          refine lv_iadd hx hb d_Ni_readSingle_52 ?_
          obtain ⟨⟨x33, I31, R32⟩, hc30, hf⟩ := op_bind hf
          try dsimp only at hf
          refine kn_i (rest := []) C h hA (c_Ni_readEither l n tl fac d hd hfac (v1 + 1) (upd I 4 ((I 4) + 1)) R) hc30 (cbW 1 hT cd_Ni_readEither rfl rfl ini_Ni ml_Ni_64 hd_Ni_readEither (rL_ok (by omega) (by decide))) im_Ni_readEither sp_Ni_readEither rfl hl.1 rfl (Nat.le_of_ble_eq_true rfl) d_Ni_readSingle_53 ⟨Nat.zero_le _, Nat.zero_le _⟩ (fun H locs h => ?_)
          obtain ⟨⟨x35, I36, R37⟩, he, hf⟩ := op_bind hf
          try dsimp only at hf
          have K34 : ∀ (ls : Array Slot), lv_has ls 3 [] → ∀ (H : Heap) (locs : List Loc), nH A s.heap dC dI ad cI tl I36 R37 H locs → W p l e (rL (d + 3)) s m args below meth c H locs 0 0 (nQi dC dI ad cI tl A below args s z) (F0 m 73 ls [.int x35]) := by
            intro ls hl H locs h
            obtain ⟨h42, hf⟩ := op_if hf
            exact rt_ni C h hr hlk hf (isZ_nar h42) d_Ni_readSingle_73
          have hf := he
          refine lv_if_eq (tgt := 72) hx hb d_Ni_readSingle_56 (by decide) (fun hc => ?_) (fun hc => ?_)
          · have hf := op_t hc hf
            refine lv_iconst (v := 0) hx hb d_Ni_readSingle_72 (by decide) ?_
            obtain ⟨rfl, rfl, rfl⟩ := op_i3 hf
            exact K34 ls (lv_sub hl [] rfl) H locs h
          · have hf := op_f hc hf
            refine lv_aload_n hx hb d_Ni_readSingle_59 rfl (lv_at hl 1 rfl) ?_
            refine lv_bipush (v := 41) hx hb d_Ni_readSingle_60 (by decide) ?_
            obtain ⟨⟨x41, I39, R40⟩, hc38, hf⟩ := op_bind hf
            try dsimp only at hf
            refine kn_i (rest := []) C h hA (c_Ni_take l n tl 41 I31 R32) hc38 (cbW 1 hT cd_Ni_take rfl rfl ini_Ni ml_Ni_50 hd_Ni_take (rL_c hd (by decide) (by decide))) im_Ni_take sp_Ni_take rfl hl.1 rfl (Nat.le_of_ble_eq_true rfl) d_Ni_readSingle_62 ⟨Nat.zero_le _, Nat.zero_le _⟩ (fun H locs h => ?_)
            refine lv_if_eq (tgt := 72) hx hb d_Ni_readSingle_65 (by decide) (fun hc => ?_) (fun hc => ?_)
            · have hf := op_t hc hf
              refine lv_iconst (v := 0) hx hb d_Ni_readSingle_72 (by decide) ?_
              obtain ⟨rfl, rfl, rfl⟩ := op_i3 hf
              exact K34 ls (lv_sub hl [] rfl) H locs h
            · have hf := op_f hc hf
              refine lv_iconst (v := 1) hx hb d_Ni_readSingle_68 (by decide) ?_
              refine lv_goto (tgt := 73) hx hb d_Ni_readSingle_69 (by decide) ?_
              obtain ⟨rfl, rfl, rfl⟩ := op_i3 hf
              exact K34 ls (lv_sub hl [] rfl) H locs h
      · have hf := op_f hc hf
        refine lv_iconst (v := 0) hx hb d_Ni_readSingle_31 (by decide) ?_
        exact rt_ni C h hr hlk hf (by decide) d_Ni_readSingle_32
    · have hf := op_f hc hf
      refine lv_aload_n hx hb d_Ni_readSingle_21 rfl (lv_at hl 1 rfl) ?_
      obtain ⟨⟨x46, I44, R45⟩, hc43, hf⟩ := op_bind hf
      try dsimp only at hf
      refine kn_i (rest := []) C h hA (c_Ni_readTest l n tl I R) hc43 (cbW 0 hT cd_Ni_readTest rfl rfl ini_Ni ml_Ni_112 hd_Ni_readTest (rL_c hd (by decide) (by decide))) im_Ni_readTest sp_Ni_readTest rfl hl.1 rfl (Nat.le_of_ble_eq_true rfl) d_Ni_readSingle_22 ⟨Nat.zero_le _, Nat.zero_le _⟩ (fun H locs h => ?_)
      obtain ⟨h47, hf⟩ := op_if hf
      exact rt_ni C h hr hlk hf (isZ_nar h47) d_Ni_readSingle_25
def p_Ni_readSingle (n : Nat) (tl : Nat) : Nat → Int32 → (Nat → Int32) → (Nat → Nat → Int32) → Option (Int32 × MU)
  | 0 => fun _ _ _ => none
  | j + 1 => p_Ni_readSingleB n tl (p_Ni_readSingle n tl j)
theorem c_Ni_readSingle (l : Launch) (n : Nat) (tl : Nat) : ∀ (j : Nat) (v1 : Int32) (I : Nat → Int32) (R : Nat → Nat → Int32), NMi l y_Ni_readSingle b_Ni_readSingle 3 .boolean (rL (10 + 3 * j)) tl (fun ad adK => [.int v1]) I R (p_Ni_readSingle n tl j v1 I R)
  | 0, v1, I, R => fun z hz => by cases hz
  | j + 1, v1, I, R => c_Ni_readSingleB l n tl (p_Ni_readSingle n tl j) (10 + 3 * j) (by omega) (c_Ni_readSingle l n tl j) v1 I R
def p_Ni_readEitherT (n : Nat) (tl : Nat) (v1 : Int32) (I : Nat → Int32) (R : Nat → Nat → Int32) : Option (Int32 × MU) := p_Ni_readEither n tl (p_Ni_readSingle n tl 8) v1 I R
theorem c_Ni_readEitherT (l : Launch) (n : Nat) (tl : Nat) (v1 : Int32) (I : Nat → Int32) (R : Nat → Nat → Int32) : NMi l y_Ni_readEither b_Ni_readEither 3 .boolean (rL 36) tl (fun ad adK => [.int v1]) I R (p_Ni_readEitherT n tl v1 I R) := c_Ni_readEither l n tl (p_Ni_readSingle n tl 8) (10 + 3 * 8) (by decide) (c_Ni_readSingle l n tl 8) v1 I R
theorem hd_Ni_read : y_Ni_read.cls ≠ "java/lang/invoke/MethodHandle" ∧ y_Ni_read.cls ≠ "java/lang/invoke/VarHandle" ∧ (parseMethodDescriptor y_Ni_read.desc).map (fun d => d.parameters.length) = some 0 := by decide +kernel
theorem d_Ni_read_0 : decode b_Ni_read 0 = .ok (.iconst 0, 1) := by decide +kernel
theorem d_Ni_read_1 : decode b_Ni_read 1 = .ok (.istore_n 1, 1) := by decide +kernel
theorem d_Ni_read_2 : decode b_Ni_read 2 = .ok (.iload_n 1, 1) := by decide +kernel
theorem d_Ni_read_3 : decode b_Ni_read 3 = .ok (.bipush 10, 2) := by decide +kernel
theorem d_Ni_read_5 : decode b_Ni_read 5 = .ok (.if_icmp .ge 126, 3) := by decide +kernel
theorem d_Ni_read_8 : decode b_Ni_read 8 = .ok (.iload_n 1, 1) := by decide +kernel
theorem d_Ni_read_9 : decode b_Ni_read 9 = .ok (.ifCond .le 17, 3) := by decide +kernel
theorem d_Ni_read_12 : decode b_Ni_read 12 = .ok (.aload_n 0, 1) := by decide +kernel
theorem d_Ni_read_13 : decode b_Ni_read 13 = .ok (.bipush 59, 2) := by decide +kernel
theorem d_Ni_read_15 : decode b_Ni_read 15 = .ok (.invokevirtual 50, 3) := by decide +kernel
theorem d_Ni_read_18 : decode b_Ni_read 18 = .ok (.ifCond .ne 8, 3) := by decide +kernel
theorem d_Ni_read_21 : decode b_Ni_read 21 = .ok (.aload_n 0, 1) := by decide +kernel
theorem d_Ni_read_22 : decode b_Ni_read 22 = .ok (.getfield 54, 3) := by decide +kernel
theorem d_Ni_read_25 : decode b_Ni_read 25 = .ok (.ireturn, 1) := by decide +kernel
theorem d_Ni_read_26 : decode b_Ni_read 26 = .ok (.aload_n 0, 1) := by decide +kernel
theorem d_Ni_read_27 : decode b_Ni_read 27 = .ok (.invokevirtual 57, 3) := by decide +kernel
theorem d_Ni_read_30 : decode b_Ni_read 30 = .ok (.istore_n 2, 1) := by decide +kernel
theorem d_Ni_read_31 : decode b_Ni_read 31 = .ok (.iload_n 2, 1) := by decide +kernel
theorem d_Ni_read_32 : decode b_Ni_read 32 = .ok (.ifCond .ge 8, 3) := by decide +kernel
theorem d_Ni_read_35 : decode b_Ni_read 35 = .ok (.aload_n 0, 1) := by decide +kernel
theorem d_Ni_read_36 : decode b_Ni_read 36 = .ok (.getfield 54, 3) := by decide +kernel
theorem d_Ni_read_39 : decode b_Ni_read 39 = .ok (.ireturn, 1) := by decide +kernel
theorem d_Ni_read_40 : decode b_Ni_read 40 = .ok (.iconst 0, 1) := by decide +kernel
theorem d_Ni_read_41 : decode b_Ni_read 41 = .ok (.istore_n 3, 1) := by decide +kernel
theorem d_Ni_read_42 : decode b_Ni_read 42 = .ok (.iload_n 2, 1) := by decide +kernel
theorem d_Ni_read_43 : decode b_Ni_read 43 = .ok (.iconst 1, 1) := by decide +kernel
theorem d_Ni_read_44 : decode b_Ni_read 44 = .ok (.if_icmp .eq 30, 3) := by decide +kernel
theorem d_Ni_read_47 : decode b_Ni_read 47 = .ok (.aload_n 0, 1) := by decide +kernel
theorem d_Ni_read_48 : decode b_Ni_read 48 = .ok (.bipush 32, 2) := by decide +kernel
theorem d_Ni_read_50 : decode b_Ni_read 50 = .ok (.invokevirtual 50, 3) := by decide +kernel
theorem d_Ni_read_53 : decode b_Ni_read 53 = .ok (.ifCond .eq 10, 3) := by decide +kernel
theorem d_Ni_read_56 : decode b_Ni_read 56 = .ok (.aload_n 0, 1) := by decide +kernel
theorem d_Ni_read_57 : decode b_Ni_read 57 = .ok (.invokevirtual 61, 3) := by decide +kernel
theorem d_Ni_read_60 : decode b_Ni_read 60 = .ok (.goto 4, 3) := by decide +kernel
theorem d_Ni_read_63 : decode b_Ni_read 63 = .ok (.iconst (-1), 1) := by decide +kernel
theorem d_Ni_read_64 : decode b_Ni_read 64 = .ok (.istore_n 3, 1) := by decide +kernel
theorem d_Ni_read_65 : decode b_Ni_read 65 = .ok (.iload_n 3, 1) := by decide +kernel
theorem d_Ni_read_66 : decode b_Ni_read 66 = .ok (.ifCond .ge 8, 3) := by decide +kernel
theorem d_Ni_read_69 : decode b_Ni_read 69 = .ok (.aload_n 0, 1) := by decide +kernel
theorem d_Ni_read_70 : decode b_Ni_read 70 = .ok (.getfield 54, 3) := by decide +kernel
theorem d_Ni_read_73 : decode b_Ni_read 73 = .ok (.ireturn, 1) := by decide +kernel
theorem d_Ni_read_74 : decode b_Ni_read 74 = .ok (.iload_n 2, 1) := by decide +kernel
theorem d_Ni_read_75 : decode b_Ni_read 75 = .ok (.ifCond .eq 8, 3) := by decide +kernel
theorem d_Ni_read_78 : decode b_Ni_read 78 = .ok (.iload_n 2, 1) := by decide +kernel
theorem d_Ni_read_79 : decode b_Ni_read 79 = .ok (.iconst 1, 1) := by decide +kernel
theorem d_Ni_read_80 : decode b_Ni_read 80 = .ok (.if_icmp .ne 25, 3) := by decide +kernel
theorem d_Ni_read_83 : decode b_Ni_read 83 = .ok (.aload_n 0, 1) := by decide +kernel
theorem d_Ni_read_84 : decode b_Ni_read 84 = .ok (.bipush 32, 2) := by decide +kernel
theorem d_Ni_read_86 : decode b_Ni_read 86 = .ok (.invokevirtual 50, 3) := by decide +kernel
theorem d_Ni_read_89 : decode b_Ni_read 89 = .ok (.ifCond .eq 11, 3) := by decide +kernel
theorem d_Ni_read_92 : decode b_Ni_read 92 = .ok (.aload_n 0, 1) := by decide +kernel
theorem d_Ni_read_93 : decode b_Ni_read 93 = .ok (.iconst 0, 1) := by decide +kernel
theorem d_Ni_read_94 : decode b_Ni_read 94 = .ok (.invokevirtual 64, 3) := by decide +kernel
theorem d_Ni_read_97 : decode b_Ni_read 97 = .ok (.ifCond .ne 8, 3) := by decide +kernel
theorem d_Ni_read_100 : decode b_Ni_read 100 = .ok (.aload_n 0, 1) := by decide +kernel
theorem d_Ni_read_101 : decode b_Ni_read 101 = .ok (.getfield 54, 3) := by decide +kernel
theorem d_Ni_read_104 : decode b_Ni_read 104 = .ok (.ireturn, 1) := by decide +kernel
theorem d_Ni_read_105 : decode b_Ni_read 105 = .ok (.aload_n 0, 1) := by decide +kernel
theorem d_Ni_read_106 : decode b_Ni_read 106 = .ok (.iload_n 2, 1) := by decide +kernel
theorem d_Ni_read_107 : decode b_Ni_read 107 = .ok (.iload_n 3, 1) := by decide +kernel
theorem d_Ni_read_108 : decode b_Ni_read 108 = .ok (.invokevirtual 68, 3) := by decide +kernel
theorem d_Ni_read_111 : decode b_Ni_read 111 = .ok (.aload_n 0, 1) := by decide +kernel
theorem d_Ni_read_112 : decode b_Ni_read 112 = .ok (.getfield 54, 3) := by decide +kernel
theorem d_Ni_read_115 : decode b_Ni_read 115 = .ok (.aload_n 0, 1) := by decide +kernel
theorem d_Ni_read_116 : decode b_Ni_read 116 = .ok (.getfield 38, 3) := by decide +kernel
theorem d_Ni_read_119 : decode b_Ni_read 119 = .ok (.arraylength, 1) := by decide +kernel
theorem d_Ni_read_120 : decode b_Ni_read 120 = .ok (.if_icmp .ne 5, 3) := by decide +kernel
theorem d_Ni_read_123 : decode b_Ni_read 123 = .ok (.iconst (-1), 1) := by decide +kernel
theorem d_Ni_read_124 : decode b_Ni_read 124 = .ok (.ireturn, 1) := by decide +kernel
theorem d_Ni_read_125 : decode b_Ni_read 125 = .ok (.iinc 1 1, 3) := by decide +kernel
theorem d_Ni_read_128 : decode b_Ni_read 128 = .ok (.goto (-126), 3) := by decide +kernel
theorem d_Ni_read_131 : decode b_Ni_read 131 = .ok (.aload_n 0, 1) := by decide +kernel
theorem d_Ni_read_132 : decode b_Ni_read 132 = .ok (.getfield 54, 3) := by decide +kernel
theorem d_Ni_read_135 : decode b_Ni_read 135 = .ok (.ireturn, 1) := by decide +kernel
def l_Ni_read_2 (n : Nat) (tl : Nat)    : Nat → Int32 → (Nat → Int32) → (Nat → Nat → Int32) → Option (Int32 × MU)
  | 0, _, _, _ => none
  | k + 1, v1, I, R => (if 10 ≤ v1 then some ((I 4), I, R) else (if v1 ≤ 0 then (p_Ni_readWord n tl I R).bind fun (x4, I2, R3) => (if 0 ≤ x4 then (if x4 = 1 then (if x4 = 0 then (p_Ni_take n tl 32 I2 R3).bind fun (x8, I6, R7) => (if x8 = 0 then some ((I6 4), I6, R7) else (p_Ni_readEitherT n tl 0 I6 R7).bind fun (x12, I10, R11) => (if x12 = 0 then some ((I10 4), I10, R11) else (p_Ni_addClause n tl x4 0 I10 R11).bind fun (I14, R15) => (if (I14 4) = (nI tl) then some ((-1), I14, R15) else l_Ni_read_2 n tl k (v1 + 1) I14 R15))) else (if x4 = 1 then (p_Ni_take n tl 32 I2 R3).bind fun (x22, I20, R21) => (if x22 = 0 then some ((I20 4), I20, R21) else (p_Ni_readEitherT n tl 0 I20 R21).bind fun (x26, I24, R25) => (if x26 = 0 then some ((I24 4), I24, R25) else (p_Ni_addClause n tl x4 0 I24 R25).bind fun (I28, R29) => (if (I28 4) = (nI tl) then some ((-1), I28, R29) else l_Ni_read_2 n tl k (v1 + 1) I28 R29))) else (p_Ni_addClause n tl x4 0 I2 R3).bind fun (I17, R18) => (if (I17 4) = (nI tl) then some ((-1), I17, R18) else l_Ni_read_2 n tl k (v1 + 1) I17 R18))) else (p_Ni_take n tl 32 I2 R3).bind fun (x33, I31, R32) => (if x33 = 0 then some ((-1), I31, R32) else (p_Ni_readNumber n tl I31 R32).bind fun (x41, I39, R40) => some (x41, I39, R40) : Option (Int32 × (Nat → Int32) × (Nat → Nat → Int32))).bind fun (x35, I36, R37) => (if 0 ≤ x35 then (if x4 = 0 then (p_Ni_take n tl 32 I36 R37).bind fun (x45, I43, R44) => (if x45 = 0 then some ((I43 4), I43, R44) else (p_Ni_readEitherT n tl 0 I43 R44).bind fun (x49, I47, R48) => (if x49 = 0 then some ((I47 4), I47, R48) else (p_Ni_addClause n tl x4 x35 I47 R48).bind fun (I51, R52) => (if (I51 4) = (nI tl) then some ((-1), I51, R52) else l_Ni_read_2 n tl k (v1 + 1) I51 R52))) else (if x4 = 1 then (p_Ni_take n tl 32 I36 R37).bind fun (x59, I57, R58) => (if x59 = 0 then some ((I57 4), I57, R58) else (p_Ni_readEitherT n tl 0 I57 R58).bind fun (x63, I61, R62) => (if x63 = 0 then some ((I61 4), I61, R62) else (p_Ni_addClause n tl x4 x35 I61 R62).bind fun (I65, R66) => (if (I65 4) = (nI tl) then some ((-1), I65, R66) else l_Ni_read_2 n tl k (v1 + 1) I65 R66))) else (p_Ni_addClause n tl x4 x35 I36 R37).bind fun (I54, R55) => (if (I54 4) = (nI tl) then some ((-1), I54, R55) else l_Ni_read_2 n tl k (v1 + 1) I54 R55))) else some ((I36 4), I36, R37))) else some ((I2 4), I2, R3)) else (p_Ni_take n tl 59 I R).bind fun (x70, I68, R69) => (if x70 = 0 then some ((I68 4), I68, R69) else (p_Ni_readWord n tl I68 R69).bind fun (x74, I72, R73) => (if 0 ≤ x74 then (if x74 = 1 then (if x74 = 0 then (p_Ni_take n tl 32 I72 R73).bind fun (x78, I76, R77) => (if x78 = 0 then some ((I76 4), I76, R77) else (p_Ni_readEitherT n tl 0 I76 R77).bind fun (x82, I80, R81) => (if x82 = 0 then some ((I80 4), I80, R81) else (p_Ni_addClause n tl x74 0 I80 R81).bind fun (I84, R85) => (if (I84 4) = (nI tl) then some ((-1), I84, R85) else l_Ni_read_2 n tl k (v1 + 1) I84 R85))) else (if x74 = 1 then (p_Ni_take n tl 32 I72 R73).bind fun (x92, I90, R91) => (if x92 = 0 then some ((I90 4), I90, R91) else (p_Ni_readEitherT n tl 0 I90 R91).bind fun (x96, I94, R95) => (if x96 = 0 then some ((I94 4), I94, R95) else (p_Ni_addClause n tl x74 0 I94 R95).bind fun (I98, R99) => (if (I98 4) = (nI tl) then some ((-1), I98, R99) else l_Ni_read_2 n tl k (v1 + 1) I98 R99))) else (p_Ni_addClause n tl x74 0 I72 R73).bind fun (I87, R88) => (if (I87 4) = (nI tl) then some ((-1), I87, R88) else l_Ni_read_2 n tl k (v1 + 1) I87 R88))) else (p_Ni_take n tl 32 I72 R73).bind fun (x103, I101, R102) => (if x103 = 0 then some ((-1), I101, R102) else (p_Ni_readNumber n tl I101 R102).bind fun (x111, I109, R110) => some (x111, I109, R110) : Option (Int32 × (Nat → Int32) × (Nat → Nat → Int32))).bind fun (x105, I106, R107) => (if 0 ≤ x105 then (if x74 = 0 then (p_Ni_take n tl 32 I106 R107).bind fun (x115, I113, R114) => (if x115 = 0 then some ((I113 4), I113, R114) else (p_Ni_readEitherT n tl 0 I113 R114).bind fun (x119, I117, R118) => (if x119 = 0 then some ((I117 4), I117, R118) else (p_Ni_addClause n tl x74 x105 I117 R118).bind fun (I121, R122) => (if (I121 4) = (nI tl) then some ((-1), I121, R122) else l_Ni_read_2 n tl k (v1 + 1) I121 R122))) else (if x74 = 1 then (p_Ni_take n tl 32 I106 R107).bind fun (x129, I127, R128) => (if x129 = 0 then some ((I127 4), I127, R128) else (p_Ni_readEitherT n tl 0 I127 R128).bind fun (x133, I131, R132) => (if x133 = 0 then some ((I131 4), I131, R132) else (p_Ni_addClause n tl x74 x105 I131 R132).bind fun (I135, R136) => (if (I135 4) = (nI tl) then some ((-1), I135, R136) else l_Ni_read_2 n tl k (v1 + 1) I135 R136))) else (p_Ni_addClause n tl x74 x105 I106 R107).bind fun (I124, R125) => (if (I124 4) = (nI tl) then some ((-1), I124, R125) else l_Ni_read_2 n tl k (v1 + 1) I124 R125))) else some ((I106 4), I106, R107))) else some ((I72 4), I72, R73)))))
set_option maxHeartbeats 4000000 in
theorem wl_Ni_read_2  {p : Program} {l : Launch} {e : Env} {s : State} {m : MethodId} {args : Array Value} {below : List Frame} {meth : Method} {c : Code} {dC : Nat → ClassId} {dI : Nat → Nat → Nat} {ad : Nat → Nat} {cI : ClassId} {tl : Nat} {A : Nat → Prop} {adK adV : Nat → Nat} (C : nC p s m args c b_Ni_read 4 dC dI cI tl A adK adV) (hA : ∀ q, s.heap.size ≤ q → A q) (hr : meth.sig.returnType = some .int) (hlk : meth.locks = false) (n : Nat)    : ∀ (k : Nat) (v1 : Int32) (I : Nat → Int32) (R : Nat → Nat → Int32) (z : Int32 × MU), l_Ni_read_2 n tl k v1 I R = some z → ∀ (ls : Array Slot), lv_has ls 4 [(0, .ref (ad 0)), (1, .int v1)] → ∀ (H : Heap) (locs : List Loc), nH A s.heap dC dI ad cI tl I R H locs → W p l e (rL 38) s m args below meth c H locs 0 0 (nQi dC dI ad cI tl A below args s z) (F0 m 2 ls []) := by
  obtain ⟨hx, hb, hml, hown, hT, -⟩ := id C
  intro k
  induction k with
  | zero => intro v1 I R z hf; exact absurd hf (by unfold l_Ni_read_2; exact fun h9 => by cases h9)
  | succ k ih =>
    intro v1 I R z hf ls hl H locs h
    unfold l_Ni_read_2 at hf
    refine lv_iload_n hx hb d_Ni_read_2 rfl (lv_at hl 1 rfl) ?_
    refine lv_bipush (v := 10) hx hb d_Ni_read_3 (by decide) ?_
    refine lv_icmp_ge (tgt := 131) hx hb d_Ni_read_5 (by decide) (fun hc => ?_) (fun hc => ?_)
    · have hf := op_t hc hf
      refine lv_aload_n hx hb d_Ni_read_131 rfl (lv_at hl 0 rfl) ?_
      refine ng_4 C h d_Ni_read_132 ?_
      exact rt_ni C h hr hlk hf rfl d_Ni_read_135
    · have hf := op_f hc hf
      refine lv_iload_n hx hb d_Ni_read_8 rfl (lv_at hl 1 rfl) ?_
      refine lv_if_le (tgt := 26) hx hb d_Ni_read_9 (by decide) (fun hc => ?_) (fun hc => ?_)
      · have hf := op_t hc hf
        refine lv_aload_n hx hb d_Ni_read_26 rfl (lv_at hl 0 rfl) ?_
        obtain ⟨⟨x4, I2, R3⟩, hc1, hf⟩ := op_bind hf
        try dsimp only at hf
        refine kn_i (rest := []) C h hA (c_Ni_readWord l n tl I R) hc1 (cbW 0 hT cd_Ni_readWord rfl rfl ini_Ni ml_Ni_57 hd_Ni_readWord ⟨Nat.le_of_ble_eq_true rfl, Nat.le_of_ble_eq_true rfl⟩) im_Ni_readWord sp_Ni_readWord rfl hl.1 rfl (Nat.le_of_ble_eq_true rfl) d_Ni_read_27 ⟨Nat.zero_le _, Nat.zero_le _⟩ (fun H locs h => ?_)
        refine lv_istore_n (lv' := [(2, .int x4), (0, .ref (ad 0)), (1, .int v1)]) hx hb d_Ni_read_30 rfl hl (by decide) rfl (fun ls hl => ?_)
        refine lv_iload_n hx hb d_Ni_read_31 rfl (lv_at hl 0 rfl) ?_
        refine lv_if_ge (tgt := 40) hx hb d_Ni_read_32 (by decide) (fun hc => ?_) (fun hc => ?_)
        · have hf := op_t hc hf
          refine lv_iconst (v := 0) hx hb d_Ni_read_40 (by decide) ?_
          refine lv_istore_n (lv' := [(3, .int 0), (2, .int x4), (0, .ref (ad 0)), (1, .int v1)]) hx hb d_Ni_read_41 rfl hl (by decide) rfl (fun ls hl => ?_)
          refine lv_iload_n hx hb d_Ni_read_42 rfl (lv_at hl 1 rfl) ?_
          refine lv_iconst (v := 1) hx hb d_Ni_read_43 (by decide) ?_
          refine lv_icmp_eq (tgt := 74) hx hb d_Ni_read_44 (by decide) (fun hc => ?_) (fun hc => ?_)
          · have hf := op_t hc hf
            refine lv_iload_n hx hb d_Ni_read_74 rfl (lv_at hl 1 rfl) ?_
            refine lv_if_eq (tgt := 83) hx hb d_Ni_read_75 (by decide) (fun hc => ?_) (fun hc => ?_)
            · have hf := op_t hc hf
              refine lv_aload_n hx hb d_Ni_read_83 rfl (lv_at hl 2 rfl) ?_
              refine lv_bipush (v := 32) hx hb d_Ni_read_84 (by decide) ?_
              obtain ⟨⟨x8, I6, R7⟩, hc5, hf⟩ := op_bind hf
              try dsimp only at hf
              refine kn_i (rest := []) C h hA (c_Ni_take l n tl 32 I2 R3) hc5 (cbW 1 hT cd_Ni_take rfl rfl ini_Ni ml_Ni_50 hd_Ni_take ⟨Nat.le_of_ble_eq_true rfl, Nat.le_of_ble_eq_true rfl⟩) im_Ni_take sp_Ni_take rfl hl.1 rfl (Nat.le_of_ble_eq_true rfl) d_Ni_read_86 ⟨Nat.zero_le _, Nat.zero_le _⟩ (fun H locs h => ?_)
              refine lv_if_eq (tgt := 100) hx hb d_Ni_read_89 (by decide) (fun hc => ?_) (fun hc => ?_)
              · have hf := op_t hc hf
                refine lv_aload_n hx hb d_Ni_read_100 rfl (lv_at hl 2 rfl) ?_
                refine ng_4 C h d_Ni_read_101 ?_
                exact rt_ni C h hr hlk hf rfl d_Ni_read_104
              · have hf := op_f hc hf
                refine lv_aload_n hx hb d_Ni_read_92 rfl (lv_at hl 2 rfl) ?_
                refine lv_iconst (v := 0) hx hb d_Ni_read_93 (by decide) ?_
                obtain ⟨⟨x12, I10, R11⟩, hc9, hf⟩ := op_bind hf
                try dsimp only at hf
                refine kn_i (rest := []) C h hA (c_Ni_readEitherT l n tl 0 I6 R7) hc9 (cbW 1 hT cd_Ni_readEither rfl rfl ini_Ni ml_Ni_64 hd_Ni_readEither ⟨Nat.le_of_ble_eq_true rfl, Nat.le_of_ble_eq_true rfl⟩) im_Ni_readEither sp_Ni_readEither rfl hl.1 rfl (Nat.le_of_ble_eq_true rfl) d_Ni_read_94 ⟨Nat.zero_le _, Nat.zero_le _⟩ (fun H locs h => ?_)
                refine lv_if_ne (tgt := 105) hx hb d_Ni_read_97 (by decide) (fun hc => ?_) (fun hc => ?_)
                · have hf := op_f hc hf
                  refine lv_aload_n hx hb d_Ni_read_105 rfl (lv_at hl 2 rfl) ?_
                  refine lv_iload_n hx hb d_Ni_read_106 rfl (lv_at hl 1 rfl) ?_
                  refine lv_iload_n hx hb d_Ni_read_107 rfl (lv_at hl 0 rfl) ?_
                  obtain ⟨⟨I14, R15⟩, hc13, hf⟩ := op_bind hf
                  try dsimp only at hf
                  refine kn_v (rest := []) C h hA (c_Ni_addClause l n tl x4 0 I10 R11) hc13 (cbW 2 hT cd_Ni_addClause rfl rfl ini_Ni ml_Ni_68 hd_Ni_addClause ⟨Nat.le_of_ble_eq_true rfl, Nat.le_of_ble_eq_true rfl⟩) im_Ni_addClause sp_Ni_addClause rfl hl.1 rfl (Nat.le_of_ble_eq_true rfl) d_Ni_read_108 ⟨Nat.zero_le _, Nat.zero_le _⟩ (fun H locs h => ?_)
                  refine lv_aload_n hx hb d_Ni_read_111 rfl (lv_at hl 2 rfl) ?_
                  refine ng_4 C h d_Ni_read_112 ?_
                  refine lv_aload_n hx hb d_Ni_read_115 rfl (lv_at hl 2 rfl) ?_
                  refine ng_3 C h d_Ni_read_116 ?_
                  refine nl_3 C h d_Ni_read_119 ?_
                  refine lv_icmp_ne (tgt := 125) hx hb d_Ni_read_120 (by decide) (fun hc => ?_) (fun hc => ?_)
                  · have hf := op_f hc hf
                    refine lv_iinc (v := (v1 + 1)) (lv' := [(1, .int (v1 + 1)), (3, .int 0), (2, .int x4), (0, .ref (ad 0))]) hx hb d_Ni_read_125 hl (k := 3) rfl rfl (by decide) rfl (fun ls hl => ?_)
                    refine lv_goto (tgt := 2) hx hb d_Ni_read_128 (by decide) ?_
                    exact ih (v1 + 1) I14 R15 _ hf ls (lv_sub hl [3, 0] rfl) H locs h
                  · have hf := op_t hc hf
                    refine lv_iconst (v := (-1)) hx hb d_Ni_read_123 (by decide) ?_
                    exact rt_ni C h hr hlk hf rfl d_Ni_read_124
                · have hf := op_t hc hf
                  refine lv_aload_n hx hb d_Ni_read_100 rfl (lv_at hl 2 rfl) ?_
                  refine ng_4 C h d_Ni_read_101 ?_
                  exact rt_ni C h hr hlk hf rfl d_Ni_read_104
            · have hf := op_f hc hf
              refine lv_iload_n hx hb d_Ni_read_78 rfl (lv_at hl 1 rfl) ?_
              refine lv_iconst (v := 1) hx hb d_Ni_read_79 (by decide) ?_
              refine lv_icmp_ne (tgt := 105) hx hb d_Ni_read_80 (by decide) (fun hc => ?_) (fun hc => ?_)
              · have hf := op_f hc hf
                refine lv_aload_n hx hb d_Ni_read_105 rfl (lv_at hl 2 rfl) ?_
                refine lv_iload_n hx hb d_Ni_read_106 rfl (lv_at hl 1 rfl) ?_
                refine lv_iload_n hx hb d_Ni_read_107 rfl (lv_at hl 0 rfl) ?_
                obtain ⟨⟨I17, R18⟩, hc16, hf⟩ := op_bind hf
                try dsimp only at hf
                refine kn_v (rest := []) C h hA (c_Ni_addClause l n tl x4 0 I2 R3) hc16 (cbW 2 hT cd_Ni_addClause rfl rfl ini_Ni ml_Ni_68 hd_Ni_addClause ⟨Nat.le_of_ble_eq_true rfl, Nat.le_of_ble_eq_true rfl⟩) im_Ni_addClause sp_Ni_addClause rfl hl.1 rfl (Nat.le_of_ble_eq_true rfl) d_Ni_read_108 ⟨Nat.zero_le _, Nat.zero_le _⟩ (fun H locs h => ?_)
                refine lv_aload_n hx hb d_Ni_read_111 rfl (lv_at hl 2 rfl) ?_
                refine ng_4 C h d_Ni_read_112 ?_
                refine lv_aload_n hx hb d_Ni_read_115 rfl (lv_at hl 2 rfl) ?_
                refine ng_3 C h d_Ni_read_116 ?_
                refine nl_3 C h d_Ni_read_119 ?_
                refine lv_icmp_ne (tgt := 125) hx hb d_Ni_read_120 (by decide) (fun hc => ?_) (fun hc => ?_)
                · have hf := op_f hc hf
                  refine lv_iinc (v := (v1 + 1)) (lv' := [(1, .int (v1 + 1)), (3, .int 0), (2, .int x4), (0, .ref (ad 0))]) hx hb d_Ni_read_125 hl (k := 3) rfl rfl (by decide) rfl (fun ls hl => ?_)
                  refine lv_goto (tgt := 2) hx hb d_Ni_read_128 (by decide) ?_
                  exact ih (v1 + 1) I17 R18 _ hf ls (lv_sub hl [3, 0] rfl) H locs h
                · have hf := op_t hc hf
                  refine lv_iconst (v := (-1)) hx hb d_Ni_read_123 (by decide) ?_
                  exact rt_ni C h hr hlk hf rfl d_Ni_read_124
              · have hf := op_t hc hf
                refine lv_aload_n hx hb d_Ni_read_83 rfl (lv_at hl 2 rfl) ?_
                refine lv_bipush (v := 32) hx hb d_Ni_read_84 (by decide) ?_
                obtain ⟨⟨x22, I20, R21⟩, hc19, hf⟩ := op_bind hf
                try dsimp only at hf
                refine kn_i (rest := []) C h hA (c_Ni_take l n tl 32 I2 R3) hc19 (cbW 1 hT cd_Ni_take rfl rfl ini_Ni ml_Ni_50 hd_Ni_take ⟨Nat.le_of_ble_eq_true rfl, Nat.le_of_ble_eq_true rfl⟩) im_Ni_take sp_Ni_take rfl hl.1 rfl (Nat.le_of_ble_eq_true rfl) d_Ni_read_86 ⟨Nat.zero_le _, Nat.zero_le _⟩ (fun H locs h => ?_)
                refine lv_if_eq (tgt := 100) hx hb d_Ni_read_89 (by decide) (fun hc => ?_) (fun hc => ?_)
                · have hf := op_t hc hf
                  refine lv_aload_n hx hb d_Ni_read_100 rfl (lv_at hl 2 rfl) ?_
                  refine ng_4 C h d_Ni_read_101 ?_
                  exact rt_ni C h hr hlk hf rfl d_Ni_read_104
                · have hf := op_f hc hf
                  refine lv_aload_n hx hb d_Ni_read_92 rfl (lv_at hl 2 rfl) ?_
                  refine lv_iconst (v := 0) hx hb d_Ni_read_93 (by decide) ?_
                  obtain ⟨⟨x26, I24, R25⟩, hc23, hf⟩ := op_bind hf
                  try dsimp only at hf
                  refine kn_i (rest := []) C h hA (c_Ni_readEitherT l n tl 0 I20 R21) hc23 (cbW 1 hT cd_Ni_readEither rfl rfl ini_Ni ml_Ni_64 hd_Ni_readEither ⟨Nat.le_of_ble_eq_true rfl, Nat.le_of_ble_eq_true rfl⟩) im_Ni_readEither sp_Ni_readEither rfl hl.1 rfl (Nat.le_of_ble_eq_true rfl) d_Ni_read_94 ⟨Nat.zero_le _, Nat.zero_le _⟩ (fun H locs h => ?_)
                  refine lv_if_ne (tgt := 105) hx hb d_Ni_read_97 (by decide) (fun hc => ?_) (fun hc => ?_)
                  · have hf := op_f hc hf
                    refine lv_aload_n hx hb d_Ni_read_105 rfl (lv_at hl 2 rfl) ?_
                    refine lv_iload_n hx hb d_Ni_read_106 rfl (lv_at hl 1 rfl) ?_
                    refine lv_iload_n hx hb d_Ni_read_107 rfl (lv_at hl 0 rfl) ?_
                    obtain ⟨⟨I28, R29⟩, hc27, hf⟩ := op_bind hf
                    try dsimp only at hf
                    refine kn_v (rest := []) C h hA (c_Ni_addClause l n tl x4 0 I24 R25) hc27 (cbW 2 hT cd_Ni_addClause rfl rfl ini_Ni ml_Ni_68 hd_Ni_addClause ⟨Nat.le_of_ble_eq_true rfl, Nat.le_of_ble_eq_true rfl⟩) im_Ni_addClause sp_Ni_addClause rfl hl.1 rfl (Nat.le_of_ble_eq_true rfl) d_Ni_read_108 ⟨Nat.zero_le _, Nat.zero_le _⟩ (fun H locs h => ?_)
                    refine lv_aload_n hx hb d_Ni_read_111 rfl (lv_at hl 2 rfl) ?_
                    refine ng_4 C h d_Ni_read_112 ?_
                    refine lv_aload_n hx hb d_Ni_read_115 rfl (lv_at hl 2 rfl) ?_
                    refine ng_3 C h d_Ni_read_116 ?_
                    refine nl_3 C h d_Ni_read_119 ?_
                    refine lv_icmp_ne (tgt := 125) hx hb d_Ni_read_120 (by decide) (fun hc => ?_) (fun hc => ?_)
                    · have hf := op_f hc hf
                      refine lv_iinc (v := (v1 + 1)) (lv' := [(1, .int (v1 + 1)), (3, .int 0), (2, .int x4), (0, .ref (ad 0))]) hx hb d_Ni_read_125 hl (k := 3) rfl rfl (by decide) rfl (fun ls hl => ?_)
                      refine lv_goto (tgt := 2) hx hb d_Ni_read_128 (by decide) ?_
                      exact ih (v1 + 1) I28 R29 _ hf ls (lv_sub hl [3, 0] rfl) H locs h
                    · have hf := op_t hc hf
                      refine lv_iconst (v := (-1)) hx hb d_Ni_read_123 (by decide) ?_
                      exact rt_ni C h hr hlk hf rfl d_Ni_read_124
                  · have hf := op_t hc hf
                    refine lv_aload_n hx hb d_Ni_read_100 rfl (lv_at hl 2 rfl) ?_
                    refine ng_4 C h d_Ni_read_101 ?_
                    exact rt_ni C h hr hlk hf rfl d_Ni_read_104
          · have hf := op_f hc hf
            refine lv_aload_n hx hb d_Ni_read_47 rfl (lv_at hl 2 rfl) ?_
            refine lv_bipush (v := 32) hx hb d_Ni_read_48 (by decide) ?_
            obtain ⟨⟨x33, I31, R32⟩, hc30, hf⟩ := op_bind hf
            try dsimp only at hf
            refine kn_i (rest := []) C h hA (c_Ni_take l n tl 32 I2 R3) hc30 (cbW 1 hT cd_Ni_take rfl rfl ini_Ni ml_Ni_50 hd_Ni_take ⟨Nat.le_of_ble_eq_true rfl, Nat.le_of_ble_eq_true rfl⟩) im_Ni_take sp_Ni_take rfl hl.1 rfl (Nat.le_of_ble_eq_true rfl) d_Ni_read_50 ⟨Nat.zero_le _, Nat.zero_le _⟩ (fun H locs h => ?_)
            obtain ⟨⟨x35, I36, R37⟩, he, hf⟩ := op_bind hf
            try dsimp only at hf
            have K34 : ∀ (ls : Array Slot), lv_has ls 4 [(0, .ref (ad 0)), (1, .int v1), (2, .int x4)] → ∀ (H : Heap) (locs : List Loc), nH A s.heap dC dI ad cI tl I36 R37 H locs → W p l e (rL 38) s m args below meth c H locs 0 0 (nQi dC dI ad cI tl A below args s z) (F0 m 64 ls [.int x35]) := by
              intro ls hl H locs h
              refine lv_istore_n (lv' := [(3, .int x35), (0, .ref (ad 0)), (1, .int v1), (2, .int x4)]) hx hb d_Ni_read_64 rfl hl (by decide) rfl (fun ls hl => ?_)
              refine lv_iload_n hx hb d_Ni_read_65 rfl (lv_at hl 0 rfl) ?_
              refine lv_if_ge (tgt := 74) hx hb d_Ni_read_66 (by decide) (fun hc => ?_) (fun hc => ?_)
              · have hf := op_t hc hf
                refine lv_iload_n hx hb d_Ni_read_74 rfl (lv_at hl 3 rfl) ?_
                refine lv_if_eq (tgt := 83) hx hb d_Ni_read_75 (by decide) (fun hc => ?_) (fun hc => ?_)
                · have hf := op_t hc hf
                  refine lv_aload_n hx hb d_Ni_read_83 rfl (lv_at hl 1 rfl) ?_
                  refine lv_bipush (v := 32) hx hb d_Ni_read_84 (by decide) ?_
                  obtain ⟨⟨x45, I43, R44⟩, hc42, hf⟩ := op_bind hf
                  try dsimp only at hf
                  refine kn_i (rest := []) C h hA (c_Ni_take l n tl 32 I36 R37) hc42 (cbW 1 hT cd_Ni_take rfl rfl ini_Ni ml_Ni_50 hd_Ni_take ⟨Nat.le_of_ble_eq_true rfl, Nat.le_of_ble_eq_true rfl⟩) im_Ni_take sp_Ni_take rfl hl.1 rfl (Nat.le_of_ble_eq_true rfl) d_Ni_read_86 ⟨Nat.zero_le _, Nat.zero_le _⟩ (fun H locs h => ?_)
                  refine lv_if_eq (tgt := 100) hx hb d_Ni_read_89 (by decide) (fun hc => ?_) (fun hc => ?_)
                  · have hf := op_t hc hf
                    refine lv_aload_n hx hb d_Ni_read_100 rfl (lv_at hl 1 rfl) ?_
                    refine ng_4 C h d_Ni_read_101 ?_
                    exact rt_ni C h hr hlk hf rfl d_Ni_read_104
                  · have hf := op_f hc hf
                    refine lv_aload_n hx hb d_Ni_read_92 rfl (lv_at hl 1 rfl) ?_
                    refine lv_iconst (v := 0) hx hb d_Ni_read_93 (by decide) ?_
                    obtain ⟨⟨x49, I47, R48⟩, hc46, hf⟩ := op_bind hf
                    try dsimp only at hf
                    refine kn_i (rest := []) C h hA (c_Ni_readEitherT l n tl 0 I43 R44) hc46 (cbW 1 hT cd_Ni_readEither rfl rfl ini_Ni ml_Ni_64 hd_Ni_readEither ⟨Nat.le_of_ble_eq_true rfl, Nat.le_of_ble_eq_true rfl⟩) im_Ni_readEither sp_Ni_readEither rfl hl.1 rfl (Nat.le_of_ble_eq_true rfl) d_Ni_read_94 ⟨Nat.zero_le _, Nat.zero_le _⟩ (fun H locs h => ?_)
                    refine lv_if_ne (tgt := 105) hx hb d_Ni_read_97 (by decide) (fun hc => ?_) (fun hc => ?_)
                    · have hf := op_f hc hf
                      refine lv_aload_n hx hb d_Ni_read_105 rfl (lv_at hl 1 rfl) ?_
                      refine lv_iload_n hx hb d_Ni_read_106 rfl (lv_at hl 3 rfl) ?_
                      refine lv_iload_n hx hb d_Ni_read_107 rfl (lv_at hl 0 rfl) ?_
                      obtain ⟨⟨I51, R52⟩, hc50, hf⟩ := op_bind hf
                      try dsimp only at hf
                      refine kn_v (rest := []) C h hA (c_Ni_addClause l n tl x4 x35 I47 R48) hc50 (cbW 2 hT cd_Ni_addClause rfl rfl ini_Ni ml_Ni_68 hd_Ni_addClause ⟨Nat.le_of_ble_eq_true rfl, Nat.le_of_ble_eq_true rfl⟩) im_Ni_addClause sp_Ni_addClause rfl hl.1 rfl (Nat.le_of_ble_eq_true rfl) d_Ni_read_108 ⟨Nat.zero_le _, Nat.zero_le _⟩ (fun H locs h => ?_)
                      refine lv_aload_n hx hb d_Ni_read_111 rfl (lv_at hl 1 rfl) ?_
                      refine ng_4 C h d_Ni_read_112 ?_
                      refine lv_aload_n hx hb d_Ni_read_115 rfl (lv_at hl 1 rfl) ?_
                      refine ng_3 C h d_Ni_read_116 ?_
                      refine nl_3 C h d_Ni_read_119 ?_
                      refine lv_icmp_ne (tgt := 125) hx hb d_Ni_read_120 (by decide) (fun hc => ?_) (fun hc => ?_)
                      · have hf := op_f hc hf
                        refine lv_iinc (v := (v1 + 1)) (lv' := [(1, .int (v1 + 1)), (3, .int x35), (0, .ref (ad 0)), (2, .int x4)]) hx hb d_Ni_read_125 hl (k := 2) rfl rfl (by decide) rfl (fun ls hl => ?_)
                        refine lv_goto (tgt := 2) hx hb d_Ni_read_128 (by decide) ?_
                        exact ih (v1 + 1) I51 R52 _ hf ls (lv_sub hl [2, 0] rfl) H locs h
                      · have hf := op_t hc hf
                        refine lv_iconst (v := (-1)) hx hb d_Ni_read_123 (by decide) ?_
                        exact rt_ni C h hr hlk hf rfl d_Ni_read_124
                    · have hf := op_t hc hf
                      refine lv_aload_n hx hb d_Ni_read_100 rfl (lv_at hl 1 rfl) ?_
                      refine ng_4 C h d_Ni_read_101 ?_
                      exact rt_ni C h hr hlk hf rfl d_Ni_read_104
                · have hf := op_f hc hf
                  refine lv_iload_n hx hb d_Ni_read_78 rfl (lv_at hl 3 rfl) ?_
                  refine lv_iconst (v := 1) hx hb d_Ni_read_79 (by decide) ?_
                  refine lv_icmp_ne (tgt := 105) hx hb d_Ni_read_80 (by decide) (fun hc => ?_) (fun hc => ?_)
                  · have hf := op_f hc hf
                    refine lv_aload_n hx hb d_Ni_read_105 rfl (lv_at hl 1 rfl) ?_
                    refine lv_iload_n hx hb d_Ni_read_106 rfl (lv_at hl 3 rfl) ?_
                    refine lv_iload_n hx hb d_Ni_read_107 rfl (lv_at hl 0 rfl) ?_
                    obtain ⟨⟨I54, R55⟩, hc53, hf⟩ := op_bind hf
                    try dsimp only at hf
                    refine kn_v (rest := []) C h hA (c_Ni_addClause l n tl x4 x35 I36 R37) hc53 (cbW 2 hT cd_Ni_addClause rfl rfl ini_Ni ml_Ni_68 hd_Ni_addClause ⟨Nat.le_of_ble_eq_true rfl, Nat.le_of_ble_eq_true rfl⟩) im_Ni_addClause sp_Ni_addClause rfl hl.1 rfl (Nat.le_of_ble_eq_true rfl) d_Ni_read_108 ⟨Nat.zero_le _, Nat.zero_le _⟩ (fun H locs h => ?_)
                    refine lv_aload_n hx hb d_Ni_read_111 rfl (lv_at hl 1 rfl) ?_
                    refine ng_4 C h d_Ni_read_112 ?_
                    refine lv_aload_n hx hb d_Ni_read_115 rfl (lv_at hl 1 rfl) ?_
                    refine ng_3 C h d_Ni_read_116 ?_
                    refine nl_3 C h d_Ni_read_119 ?_
                    refine lv_icmp_ne (tgt := 125) hx hb d_Ni_read_120 (by decide) (fun hc => ?_) (fun hc => ?_)
                    · have hf := op_f hc hf
                      refine lv_iinc (v := (v1 + 1)) (lv' := [(1, .int (v1 + 1)), (3, .int x35), (0, .ref (ad 0)), (2, .int x4)]) hx hb d_Ni_read_125 hl (k := 2) rfl rfl (by decide) rfl (fun ls hl => ?_)
                      refine lv_goto (tgt := 2) hx hb d_Ni_read_128 (by decide) ?_
                      exact ih (v1 + 1) I54 R55 _ hf ls (lv_sub hl [2, 0] rfl) H locs h
                    · have hf := op_t hc hf
                      refine lv_iconst (v := (-1)) hx hb d_Ni_read_123 (by decide) ?_
                      exact rt_ni C h hr hlk hf rfl d_Ni_read_124
                  · have hf := op_t hc hf
                    refine lv_aload_n hx hb d_Ni_read_83 rfl (lv_at hl 1 rfl) ?_
                    refine lv_bipush (v := 32) hx hb d_Ni_read_84 (by decide) ?_
                    obtain ⟨⟨x59, I57, R58⟩, hc56, hf⟩ := op_bind hf
                    try dsimp only at hf
                    refine kn_i (rest := []) C h hA (c_Ni_take l n tl 32 I36 R37) hc56 (cbW 1 hT cd_Ni_take rfl rfl ini_Ni ml_Ni_50 hd_Ni_take ⟨Nat.le_of_ble_eq_true rfl, Nat.le_of_ble_eq_true rfl⟩) im_Ni_take sp_Ni_take rfl hl.1 rfl (Nat.le_of_ble_eq_true rfl) d_Ni_read_86 ⟨Nat.zero_le _, Nat.zero_le _⟩ (fun H locs h => ?_)
                    refine lv_if_eq (tgt := 100) hx hb d_Ni_read_89 (by decide) (fun hc => ?_) (fun hc => ?_)
                    · have hf := op_t hc hf
                      refine lv_aload_n hx hb d_Ni_read_100 rfl (lv_at hl 1 rfl) ?_
                      refine ng_4 C h d_Ni_read_101 ?_
                      exact rt_ni C h hr hlk hf rfl d_Ni_read_104
                    · have hf := op_f hc hf
                      refine lv_aload_n hx hb d_Ni_read_92 rfl (lv_at hl 1 rfl) ?_
                      refine lv_iconst (v := 0) hx hb d_Ni_read_93 (by decide) ?_
                      obtain ⟨⟨x63, I61, R62⟩, hc60, hf⟩ := op_bind hf
                      try dsimp only at hf
                      refine kn_i (rest := []) C h hA (c_Ni_readEitherT l n tl 0 I57 R58) hc60 (cbW 1 hT cd_Ni_readEither rfl rfl ini_Ni ml_Ni_64 hd_Ni_readEither ⟨Nat.le_of_ble_eq_true rfl, Nat.le_of_ble_eq_true rfl⟩) im_Ni_readEither sp_Ni_readEither rfl hl.1 rfl (Nat.le_of_ble_eq_true rfl) d_Ni_read_94 ⟨Nat.zero_le _, Nat.zero_le _⟩ (fun H locs h => ?_)
                      refine lv_if_ne (tgt := 105) hx hb d_Ni_read_97 (by decide) (fun hc => ?_) (fun hc => ?_)
                      · have hf := op_f hc hf
                        refine lv_aload_n hx hb d_Ni_read_105 rfl (lv_at hl 1 rfl) ?_
                        refine lv_iload_n hx hb d_Ni_read_106 rfl (lv_at hl 3 rfl) ?_
                        refine lv_iload_n hx hb d_Ni_read_107 rfl (lv_at hl 0 rfl) ?_
                        obtain ⟨⟨I65, R66⟩, hc64, hf⟩ := op_bind hf
                        try dsimp only at hf
                        refine kn_v (rest := []) C h hA (c_Ni_addClause l n tl x4 x35 I61 R62) hc64 (cbW 2 hT cd_Ni_addClause rfl rfl ini_Ni ml_Ni_68 hd_Ni_addClause ⟨Nat.le_of_ble_eq_true rfl, Nat.le_of_ble_eq_true rfl⟩) im_Ni_addClause sp_Ni_addClause rfl hl.1 rfl (Nat.le_of_ble_eq_true rfl) d_Ni_read_108 ⟨Nat.zero_le _, Nat.zero_le _⟩ (fun H locs h => ?_)
                        refine lv_aload_n hx hb d_Ni_read_111 rfl (lv_at hl 1 rfl) ?_
                        refine ng_4 C h d_Ni_read_112 ?_
                        refine lv_aload_n hx hb d_Ni_read_115 rfl (lv_at hl 1 rfl) ?_
                        refine ng_3 C h d_Ni_read_116 ?_
                        refine nl_3 C h d_Ni_read_119 ?_
                        refine lv_icmp_ne (tgt := 125) hx hb d_Ni_read_120 (by decide) (fun hc => ?_) (fun hc => ?_)
                        · have hf := op_f hc hf
                          refine lv_iinc (v := (v1 + 1)) (lv' := [(1, .int (v1 + 1)), (3, .int x35), (0, .ref (ad 0)), (2, .int x4)]) hx hb d_Ni_read_125 hl (k := 2) rfl rfl (by decide) rfl (fun ls hl => ?_)
                          refine lv_goto (tgt := 2) hx hb d_Ni_read_128 (by decide) ?_
                          exact ih (v1 + 1) I65 R66 _ hf ls (lv_sub hl [2, 0] rfl) H locs h
                        · have hf := op_t hc hf
                          refine lv_iconst (v := (-1)) hx hb d_Ni_read_123 (by decide) ?_
                          exact rt_ni C h hr hlk hf rfl d_Ni_read_124
                      · have hf := op_t hc hf
                        refine lv_aload_n hx hb d_Ni_read_100 rfl (lv_at hl 1 rfl) ?_
                        refine ng_4 C h d_Ni_read_101 ?_
                        exact rt_ni C h hr hlk hf rfl d_Ni_read_104
              · have hf := op_f hc hf
                refine lv_aload_n hx hb d_Ni_read_69 rfl (lv_at hl 1 rfl) ?_
                refine ng_4 C h d_Ni_read_70 ?_
                exact rt_ni C h hr hlk hf rfl d_Ni_read_73
            have hf := he
            refine lv_if_eq (tgt := 63) hx hb d_Ni_read_53 (by decide) (fun hc => ?_) (fun hc => ?_)
            · have hf := op_t hc hf
              refine lv_iconst (v := (-1)) hx hb d_Ni_read_63 (by decide) ?_
              obtain ⟨rfl, rfl, rfl⟩ := op_i3 hf
              exact K34 ls (lv_sub hl [2, 3, 1] rfl) H locs h
            · have hf := op_f hc hf
              refine lv_aload_n hx hb d_Ni_read_56 rfl (lv_at hl 2 rfl) ?_
              obtain ⟨⟨x41, I39, R40⟩, hc38, hf⟩ := op_bind hf
              try dsimp only at hf
              refine kn_i (rest := []) C h hA (c_Ni_readNumber l n tl I31 R32) hc38 (cbW 0 hT cd_Ni_readNumber rfl rfl ini_Ni ml_Ni_61 hd_Ni_readNumber ⟨Nat.le_of_ble_eq_true rfl, Nat.le_of_ble_eq_true rfl⟩) im_Ni_readNumber sp_Ni_readNumber rfl hl.1 rfl (Nat.le_of_ble_eq_true rfl) d_Ni_read_57 ⟨Nat.zero_le _, Nat.zero_le _⟩ (fun H locs h => ?_)
              refine lv_goto (tgt := 64) hx hb d_Ni_read_60 (by decide) ?_
              obtain ⟨rfl, rfl, rfl⟩ := op_i3 hf
              exact K34 ls (lv_sub hl [2, 3, 1] rfl) H locs h
        · have hf := op_f hc hf
          refine lv_aload_n hx hb d_Ni_read_35 rfl (lv_at hl 1 rfl) ?_
          refine ng_4 C h d_Ni_read_36 ?_
          exact rt_ni C h hr hlk hf rfl d_Ni_read_39
      · have hf := op_f hc hf
        refine lv_aload_n hx hb d_Ni_read_12 rfl (lv_at hl 0 rfl) ?_
        refine lv_bipush (v := 59) hx hb d_Ni_read_13 (by decide) ?_
        obtain ⟨⟨x70, I68, R69⟩, hc67, hf⟩ := op_bind hf
        try dsimp only at hf
        refine kn_i (rest := []) C h hA (c_Ni_take l n tl 59 I R) hc67 (cbW 1 hT cd_Ni_take rfl rfl ini_Ni ml_Ni_50 hd_Ni_take ⟨Nat.le_of_ble_eq_true rfl, Nat.le_of_ble_eq_true rfl⟩) im_Ni_take sp_Ni_take rfl hl.1 rfl (Nat.le_of_ble_eq_true rfl) d_Ni_read_15 ⟨Nat.zero_le _, Nat.zero_le _⟩ (fun H locs h => ?_)
        refine lv_if_ne (tgt := 26) hx hb d_Ni_read_18 (by decide) (fun hc => ?_) (fun hc => ?_)
        · have hf := op_f hc hf
          refine lv_aload_n hx hb d_Ni_read_26 rfl (lv_at hl 0 rfl) ?_
          obtain ⟨⟨x74, I72, R73⟩, hc71, hf⟩ := op_bind hf
          try dsimp only at hf
          refine kn_i (rest := []) C h hA (c_Ni_readWord l n tl I68 R69) hc71 (cbW 0 hT cd_Ni_readWord rfl rfl ini_Ni ml_Ni_57 hd_Ni_readWord ⟨Nat.le_of_ble_eq_true rfl, Nat.le_of_ble_eq_true rfl⟩) im_Ni_readWord sp_Ni_readWord rfl hl.1 rfl (Nat.le_of_ble_eq_true rfl) d_Ni_read_27 ⟨Nat.zero_le _, Nat.zero_le _⟩ (fun H locs h => ?_)
          refine lv_istore_n (lv' := [(2, .int x74), (0, .ref (ad 0)), (1, .int v1)]) hx hb d_Ni_read_30 rfl hl (by decide) rfl (fun ls hl => ?_)
          refine lv_iload_n hx hb d_Ni_read_31 rfl (lv_at hl 0 rfl) ?_
          refine lv_if_ge (tgt := 40) hx hb d_Ni_read_32 (by decide) (fun hc => ?_) (fun hc => ?_)
          · have hf := op_t hc hf
            refine lv_iconst (v := 0) hx hb d_Ni_read_40 (by decide) ?_
            refine lv_istore_n (lv' := [(3, .int 0), (2, .int x74), (0, .ref (ad 0)), (1, .int v1)]) hx hb d_Ni_read_41 rfl hl (by decide) rfl (fun ls hl => ?_)
            refine lv_iload_n hx hb d_Ni_read_42 rfl (lv_at hl 1 rfl) ?_
            refine lv_iconst (v := 1) hx hb d_Ni_read_43 (by decide) ?_
            refine lv_icmp_eq (tgt := 74) hx hb d_Ni_read_44 (by decide) (fun hc => ?_) (fun hc => ?_)
            · have hf := op_t hc hf
              refine lv_iload_n hx hb d_Ni_read_74 rfl (lv_at hl 1 rfl) ?_
              refine lv_if_eq (tgt := 83) hx hb d_Ni_read_75 (by decide) (fun hc => ?_) (fun hc => ?_)
              · have hf := op_t hc hf
                refine lv_aload_n hx hb d_Ni_read_83 rfl (lv_at hl 2 rfl) ?_
                refine lv_bipush (v := 32) hx hb d_Ni_read_84 (by decide) ?_
                obtain ⟨⟨x78, I76, R77⟩, hc75, hf⟩ := op_bind hf
                try dsimp only at hf
                refine kn_i (rest := []) C h hA (c_Ni_take l n tl 32 I72 R73) hc75 (cbW 1 hT cd_Ni_take rfl rfl ini_Ni ml_Ni_50 hd_Ni_take ⟨Nat.le_of_ble_eq_true rfl, Nat.le_of_ble_eq_true rfl⟩) im_Ni_take sp_Ni_take rfl hl.1 rfl (Nat.le_of_ble_eq_true rfl) d_Ni_read_86 ⟨Nat.zero_le _, Nat.zero_le _⟩ (fun H locs h => ?_)
                refine lv_if_eq (tgt := 100) hx hb d_Ni_read_89 (by decide) (fun hc => ?_) (fun hc => ?_)
                · have hf := op_t hc hf
                  refine lv_aload_n hx hb d_Ni_read_100 rfl (lv_at hl 2 rfl) ?_
                  refine ng_4 C h d_Ni_read_101 ?_
                  exact rt_ni C h hr hlk hf rfl d_Ni_read_104
                · have hf := op_f hc hf
                  refine lv_aload_n hx hb d_Ni_read_92 rfl (lv_at hl 2 rfl) ?_
                  refine lv_iconst (v := 0) hx hb d_Ni_read_93 (by decide) ?_
                  obtain ⟨⟨x82, I80, R81⟩, hc79, hf⟩ := op_bind hf
                  try dsimp only at hf
                  refine kn_i (rest := []) C h hA (c_Ni_readEitherT l n tl 0 I76 R77) hc79 (cbW 1 hT cd_Ni_readEither rfl rfl ini_Ni ml_Ni_64 hd_Ni_readEither ⟨Nat.le_of_ble_eq_true rfl, Nat.le_of_ble_eq_true rfl⟩) im_Ni_readEither sp_Ni_readEither rfl hl.1 rfl (Nat.le_of_ble_eq_true rfl) d_Ni_read_94 ⟨Nat.zero_le _, Nat.zero_le _⟩ (fun H locs h => ?_)
                  refine lv_if_ne (tgt := 105) hx hb d_Ni_read_97 (by decide) (fun hc => ?_) (fun hc => ?_)
                  · have hf := op_f hc hf
                    refine lv_aload_n hx hb d_Ni_read_105 rfl (lv_at hl 2 rfl) ?_
                    refine lv_iload_n hx hb d_Ni_read_106 rfl (lv_at hl 1 rfl) ?_
                    refine lv_iload_n hx hb d_Ni_read_107 rfl (lv_at hl 0 rfl) ?_
                    obtain ⟨⟨I84, R85⟩, hc83, hf⟩ := op_bind hf
                    try dsimp only at hf
                    refine kn_v (rest := []) C h hA (c_Ni_addClause l n tl x74 0 I80 R81) hc83 (cbW 2 hT cd_Ni_addClause rfl rfl ini_Ni ml_Ni_68 hd_Ni_addClause ⟨Nat.le_of_ble_eq_true rfl, Nat.le_of_ble_eq_true rfl⟩) im_Ni_addClause sp_Ni_addClause rfl hl.1 rfl (Nat.le_of_ble_eq_true rfl) d_Ni_read_108 ⟨Nat.zero_le _, Nat.zero_le _⟩ (fun H locs h => ?_)
                    refine lv_aload_n hx hb d_Ni_read_111 rfl (lv_at hl 2 rfl) ?_
                    refine ng_4 C h d_Ni_read_112 ?_
                    refine lv_aload_n hx hb d_Ni_read_115 rfl (lv_at hl 2 rfl) ?_
                    refine ng_3 C h d_Ni_read_116 ?_
                    refine nl_3 C h d_Ni_read_119 ?_
                    refine lv_icmp_ne (tgt := 125) hx hb d_Ni_read_120 (by decide) (fun hc => ?_) (fun hc => ?_)
                    · have hf := op_f hc hf
                      refine lv_iinc (v := (v1 + 1)) (lv' := [(1, .int (v1 + 1)), (3, .int 0), (2, .int x74), (0, .ref (ad 0))]) hx hb d_Ni_read_125 hl (k := 3) rfl rfl (by decide) rfl (fun ls hl => ?_)
                      refine lv_goto (tgt := 2) hx hb d_Ni_read_128 (by decide) ?_
                      exact ih (v1 + 1) I84 R85 _ hf ls (lv_sub hl [3, 0] rfl) H locs h
                    · have hf := op_t hc hf
                      refine lv_iconst (v := (-1)) hx hb d_Ni_read_123 (by decide) ?_
                      exact rt_ni C h hr hlk hf rfl d_Ni_read_124
                  · have hf := op_t hc hf
                    refine lv_aload_n hx hb d_Ni_read_100 rfl (lv_at hl 2 rfl) ?_
                    refine ng_4 C h d_Ni_read_101 ?_
                    exact rt_ni C h hr hlk hf rfl d_Ni_read_104
              · have hf := op_f hc hf
                refine lv_iload_n hx hb d_Ni_read_78 rfl (lv_at hl 1 rfl) ?_
                refine lv_iconst (v := 1) hx hb d_Ni_read_79 (by decide) ?_
                refine lv_icmp_ne (tgt := 105) hx hb d_Ni_read_80 (by decide) (fun hc => ?_) (fun hc => ?_)
                · have hf := op_f hc hf
                  refine lv_aload_n hx hb d_Ni_read_105 rfl (lv_at hl 2 rfl) ?_
                  refine lv_iload_n hx hb d_Ni_read_106 rfl (lv_at hl 1 rfl) ?_
                  refine lv_iload_n hx hb d_Ni_read_107 rfl (lv_at hl 0 rfl) ?_
                  obtain ⟨⟨I87, R88⟩, hc86, hf⟩ := op_bind hf
                  try dsimp only at hf
                  refine kn_v (rest := []) C h hA (c_Ni_addClause l n tl x74 0 I72 R73) hc86 (cbW 2 hT cd_Ni_addClause rfl rfl ini_Ni ml_Ni_68 hd_Ni_addClause ⟨Nat.le_of_ble_eq_true rfl, Nat.le_of_ble_eq_true rfl⟩) im_Ni_addClause sp_Ni_addClause rfl hl.1 rfl (Nat.le_of_ble_eq_true rfl) d_Ni_read_108 ⟨Nat.zero_le _, Nat.zero_le _⟩ (fun H locs h => ?_)
                  refine lv_aload_n hx hb d_Ni_read_111 rfl (lv_at hl 2 rfl) ?_
                  refine ng_4 C h d_Ni_read_112 ?_
                  refine lv_aload_n hx hb d_Ni_read_115 rfl (lv_at hl 2 rfl) ?_
                  refine ng_3 C h d_Ni_read_116 ?_
                  refine nl_3 C h d_Ni_read_119 ?_
                  refine lv_icmp_ne (tgt := 125) hx hb d_Ni_read_120 (by decide) (fun hc => ?_) (fun hc => ?_)
                  · have hf := op_f hc hf
                    refine lv_iinc (v := (v1 + 1)) (lv' := [(1, .int (v1 + 1)), (3, .int 0), (2, .int x74), (0, .ref (ad 0))]) hx hb d_Ni_read_125 hl (k := 3) rfl rfl (by decide) rfl (fun ls hl => ?_)
                    refine lv_goto (tgt := 2) hx hb d_Ni_read_128 (by decide) ?_
                    exact ih (v1 + 1) I87 R88 _ hf ls (lv_sub hl [3, 0] rfl) H locs h
                  · have hf := op_t hc hf
                    refine lv_iconst (v := (-1)) hx hb d_Ni_read_123 (by decide) ?_
                    exact rt_ni C h hr hlk hf rfl d_Ni_read_124
                · have hf := op_t hc hf
                  refine lv_aload_n hx hb d_Ni_read_83 rfl (lv_at hl 2 rfl) ?_
                  refine lv_bipush (v := 32) hx hb d_Ni_read_84 (by decide) ?_
                  obtain ⟨⟨x92, I90, R91⟩, hc89, hf⟩ := op_bind hf
                  try dsimp only at hf
                  refine kn_i (rest := []) C h hA (c_Ni_take l n tl 32 I72 R73) hc89 (cbW 1 hT cd_Ni_take rfl rfl ini_Ni ml_Ni_50 hd_Ni_take ⟨Nat.le_of_ble_eq_true rfl, Nat.le_of_ble_eq_true rfl⟩) im_Ni_take sp_Ni_take rfl hl.1 rfl (Nat.le_of_ble_eq_true rfl) d_Ni_read_86 ⟨Nat.zero_le _, Nat.zero_le _⟩ (fun H locs h => ?_)
                  refine lv_if_eq (tgt := 100) hx hb d_Ni_read_89 (by decide) (fun hc => ?_) (fun hc => ?_)
                  · have hf := op_t hc hf
                    refine lv_aload_n hx hb d_Ni_read_100 rfl (lv_at hl 2 rfl) ?_
                    refine ng_4 C h d_Ni_read_101 ?_
                    exact rt_ni C h hr hlk hf rfl d_Ni_read_104
                  · have hf := op_f hc hf
                    refine lv_aload_n hx hb d_Ni_read_92 rfl (lv_at hl 2 rfl) ?_
                    refine lv_iconst (v := 0) hx hb d_Ni_read_93 (by decide) ?_
                    obtain ⟨⟨x96, I94, R95⟩, hc93, hf⟩ := op_bind hf
                    try dsimp only at hf
                    refine kn_i (rest := []) C h hA (c_Ni_readEitherT l n tl 0 I90 R91) hc93 (cbW 1 hT cd_Ni_readEither rfl rfl ini_Ni ml_Ni_64 hd_Ni_readEither ⟨Nat.le_of_ble_eq_true rfl, Nat.le_of_ble_eq_true rfl⟩) im_Ni_readEither sp_Ni_readEither rfl hl.1 rfl (Nat.le_of_ble_eq_true rfl) d_Ni_read_94 ⟨Nat.zero_le _, Nat.zero_le _⟩ (fun H locs h => ?_)
                    refine lv_if_ne (tgt := 105) hx hb d_Ni_read_97 (by decide) (fun hc => ?_) (fun hc => ?_)
                    · have hf := op_f hc hf
                      refine lv_aload_n hx hb d_Ni_read_105 rfl (lv_at hl 2 rfl) ?_
                      refine lv_iload_n hx hb d_Ni_read_106 rfl (lv_at hl 1 rfl) ?_
                      refine lv_iload_n hx hb d_Ni_read_107 rfl (lv_at hl 0 rfl) ?_
                      obtain ⟨⟨I98, R99⟩, hc97, hf⟩ := op_bind hf
                      try dsimp only at hf
                      refine kn_v (rest := []) C h hA (c_Ni_addClause l n tl x74 0 I94 R95) hc97 (cbW 2 hT cd_Ni_addClause rfl rfl ini_Ni ml_Ni_68 hd_Ni_addClause ⟨Nat.le_of_ble_eq_true rfl, Nat.le_of_ble_eq_true rfl⟩) im_Ni_addClause sp_Ni_addClause rfl hl.1 rfl (Nat.le_of_ble_eq_true rfl) d_Ni_read_108 ⟨Nat.zero_le _, Nat.zero_le _⟩ (fun H locs h => ?_)
                      refine lv_aload_n hx hb d_Ni_read_111 rfl (lv_at hl 2 rfl) ?_
                      refine ng_4 C h d_Ni_read_112 ?_
                      refine lv_aload_n hx hb d_Ni_read_115 rfl (lv_at hl 2 rfl) ?_
                      refine ng_3 C h d_Ni_read_116 ?_
                      refine nl_3 C h d_Ni_read_119 ?_
                      refine lv_icmp_ne (tgt := 125) hx hb d_Ni_read_120 (by decide) (fun hc => ?_) (fun hc => ?_)
                      · have hf := op_f hc hf
                        refine lv_iinc (v := (v1 + 1)) (lv' := [(1, .int (v1 + 1)), (3, .int 0), (2, .int x74), (0, .ref (ad 0))]) hx hb d_Ni_read_125 hl (k := 3) rfl rfl (by decide) rfl (fun ls hl => ?_)
                        refine lv_goto (tgt := 2) hx hb d_Ni_read_128 (by decide) ?_
                        exact ih (v1 + 1) I98 R99 _ hf ls (lv_sub hl [3, 0] rfl) H locs h
                      · have hf := op_t hc hf
                        refine lv_iconst (v := (-1)) hx hb d_Ni_read_123 (by decide) ?_
                        exact rt_ni C h hr hlk hf rfl d_Ni_read_124
                    · have hf := op_t hc hf
                      refine lv_aload_n hx hb d_Ni_read_100 rfl (lv_at hl 2 rfl) ?_
                      refine ng_4 C h d_Ni_read_101 ?_
                      exact rt_ni C h hr hlk hf rfl d_Ni_read_104
            · have hf := op_f hc hf
              refine lv_aload_n hx hb d_Ni_read_47 rfl (lv_at hl 2 rfl) ?_
              refine lv_bipush (v := 32) hx hb d_Ni_read_48 (by decide) ?_
              obtain ⟨⟨x103, I101, R102⟩, hc100, hf⟩ := op_bind hf
              try dsimp only at hf
              refine kn_i (rest := []) C h hA (c_Ni_take l n tl 32 I72 R73) hc100 (cbW 1 hT cd_Ni_take rfl rfl ini_Ni ml_Ni_50 hd_Ni_take ⟨Nat.le_of_ble_eq_true rfl, Nat.le_of_ble_eq_true rfl⟩) im_Ni_take sp_Ni_take rfl hl.1 rfl (Nat.le_of_ble_eq_true rfl) d_Ni_read_50 ⟨Nat.zero_le _, Nat.zero_le _⟩ (fun H locs h => ?_)
              obtain ⟨⟨x105, I106, R107⟩, he, hf⟩ := op_bind hf
              try dsimp only at hf
              have K104 : ∀ (ls : Array Slot), lv_has ls 4 [(0, .ref (ad 0)), (1, .int v1), (2, .int x74)] → ∀ (H : Heap) (locs : List Loc), nH A s.heap dC dI ad cI tl I106 R107 H locs → W p l e (rL 38) s m args below meth c H locs 0 0 (nQi dC dI ad cI tl A below args s z) (F0 m 64 ls [.int x105]) := by
                intro ls hl H locs h
                refine lv_istore_n (lv' := [(3, .int x105), (0, .ref (ad 0)), (1, .int v1), (2, .int x74)]) hx hb d_Ni_read_64 rfl hl (by decide) rfl (fun ls hl => ?_)
                refine lv_iload_n hx hb d_Ni_read_65 rfl (lv_at hl 0 rfl) ?_
                refine lv_if_ge (tgt := 74) hx hb d_Ni_read_66 (by decide) (fun hc => ?_) (fun hc => ?_)
                · have hf := op_t hc hf
                  refine lv_iload_n hx hb d_Ni_read_74 rfl (lv_at hl 3 rfl) ?_
                  refine lv_if_eq (tgt := 83) hx hb d_Ni_read_75 (by decide) (fun hc => ?_) (fun hc => ?_)
                  · have hf := op_t hc hf
                    refine lv_aload_n hx hb d_Ni_read_83 rfl (lv_at hl 1 rfl) ?_
                    refine lv_bipush (v := 32) hx hb d_Ni_read_84 (by decide) ?_
                    obtain ⟨⟨x115, I113, R114⟩, hc112, hf⟩ := op_bind hf
                    try dsimp only at hf
                    refine kn_i (rest := []) C h hA (c_Ni_take l n tl 32 I106 R107) hc112 (cbW 1 hT cd_Ni_take rfl rfl ini_Ni ml_Ni_50 hd_Ni_take ⟨Nat.le_of_ble_eq_true rfl, Nat.le_of_ble_eq_true rfl⟩) im_Ni_take sp_Ni_take rfl hl.1 rfl (Nat.le_of_ble_eq_true rfl) d_Ni_read_86 ⟨Nat.zero_le _, Nat.zero_le _⟩ (fun H locs h => ?_)
                    refine lv_if_eq (tgt := 100) hx hb d_Ni_read_89 (by decide) (fun hc => ?_) (fun hc => ?_)
                    · have hf := op_t hc hf
                      refine lv_aload_n hx hb d_Ni_read_100 rfl (lv_at hl 1 rfl) ?_
                      refine ng_4 C h d_Ni_read_101 ?_
                      exact rt_ni C h hr hlk hf rfl d_Ni_read_104
                    · have hf := op_f hc hf
                      refine lv_aload_n hx hb d_Ni_read_92 rfl (lv_at hl 1 rfl) ?_
                      refine lv_iconst (v := 0) hx hb d_Ni_read_93 (by decide) ?_
                      obtain ⟨⟨x119, I117, R118⟩, hc116, hf⟩ := op_bind hf
                      try dsimp only at hf
                      refine kn_i (rest := []) C h hA (c_Ni_readEitherT l n tl 0 I113 R114) hc116 (cbW 1 hT cd_Ni_readEither rfl rfl ini_Ni ml_Ni_64 hd_Ni_readEither ⟨Nat.le_of_ble_eq_true rfl, Nat.le_of_ble_eq_true rfl⟩) im_Ni_readEither sp_Ni_readEither rfl hl.1 rfl (Nat.le_of_ble_eq_true rfl) d_Ni_read_94 ⟨Nat.zero_le _, Nat.zero_le _⟩ (fun H locs h => ?_)
                      refine lv_if_ne (tgt := 105) hx hb d_Ni_read_97 (by decide) (fun hc => ?_) (fun hc => ?_)
                      · have hf := op_f hc hf
                        refine lv_aload_n hx hb d_Ni_read_105 rfl (lv_at hl 1 rfl) ?_
                        refine lv_iload_n hx hb d_Ni_read_106 rfl (lv_at hl 3 rfl) ?_
                        refine lv_iload_n hx hb d_Ni_read_107 rfl (lv_at hl 0 rfl) ?_
                        obtain ⟨⟨I121, R122⟩, hc120, hf⟩ := op_bind hf
                        try dsimp only at hf
                        refine kn_v (rest := []) C h hA (c_Ni_addClause l n tl x74 x105 I117 R118) hc120 (cbW 2 hT cd_Ni_addClause rfl rfl ini_Ni ml_Ni_68 hd_Ni_addClause ⟨Nat.le_of_ble_eq_true rfl, Nat.le_of_ble_eq_true rfl⟩) im_Ni_addClause sp_Ni_addClause rfl hl.1 rfl (Nat.le_of_ble_eq_true rfl) d_Ni_read_108 ⟨Nat.zero_le _, Nat.zero_le _⟩ (fun H locs h => ?_)
                        refine lv_aload_n hx hb d_Ni_read_111 rfl (lv_at hl 1 rfl) ?_
                        refine ng_4 C h d_Ni_read_112 ?_
                        refine lv_aload_n hx hb d_Ni_read_115 rfl (lv_at hl 1 rfl) ?_
                        refine ng_3 C h d_Ni_read_116 ?_
                        refine nl_3 C h d_Ni_read_119 ?_
                        refine lv_icmp_ne (tgt := 125) hx hb d_Ni_read_120 (by decide) (fun hc => ?_) (fun hc => ?_)
                        · have hf := op_f hc hf
                          refine lv_iinc (v := (v1 + 1)) (lv' := [(1, .int (v1 + 1)), (3, .int x105), (0, .ref (ad 0)), (2, .int x74)]) hx hb d_Ni_read_125 hl (k := 2) rfl rfl (by decide) rfl (fun ls hl => ?_)
                          refine lv_goto (tgt := 2) hx hb d_Ni_read_128 (by decide) ?_
                          exact ih (v1 + 1) I121 R122 _ hf ls (lv_sub hl [2, 0] rfl) H locs h
                        · have hf := op_t hc hf
                          refine lv_iconst (v := (-1)) hx hb d_Ni_read_123 (by decide) ?_
                          exact rt_ni C h hr hlk hf rfl d_Ni_read_124
                      · have hf := op_t hc hf
                        refine lv_aload_n hx hb d_Ni_read_100 rfl (lv_at hl 1 rfl) ?_
                        refine ng_4 C h d_Ni_read_101 ?_
                        exact rt_ni C h hr hlk hf rfl d_Ni_read_104
                  · have hf := op_f hc hf
                    refine lv_iload_n hx hb d_Ni_read_78 rfl (lv_at hl 3 rfl) ?_
                    refine lv_iconst (v := 1) hx hb d_Ni_read_79 (by decide) ?_
                    refine lv_icmp_ne (tgt := 105) hx hb d_Ni_read_80 (by decide) (fun hc => ?_) (fun hc => ?_)
                    · have hf := op_f hc hf
                      refine lv_aload_n hx hb d_Ni_read_105 rfl (lv_at hl 1 rfl) ?_
                      refine lv_iload_n hx hb d_Ni_read_106 rfl (lv_at hl 3 rfl) ?_
                      refine lv_iload_n hx hb d_Ni_read_107 rfl (lv_at hl 0 rfl) ?_
                      obtain ⟨⟨I124, R125⟩, hc123, hf⟩ := op_bind hf
                      try dsimp only at hf
                      refine kn_v (rest := []) C h hA (c_Ni_addClause l n tl x74 x105 I106 R107) hc123 (cbW 2 hT cd_Ni_addClause rfl rfl ini_Ni ml_Ni_68 hd_Ni_addClause ⟨Nat.le_of_ble_eq_true rfl, Nat.le_of_ble_eq_true rfl⟩) im_Ni_addClause sp_Ni_addClause rfl hl.1 rfl (Nat.le_of_ble_eq_true rfl) d_Ni_read_108 ⟨Nat.zero_le _, Nat.zero_le _⟩ (fun H locs h => ?_)
                      refine lv_aload_n hx hb d_Ni_read_111 rfl (lv_at hl 1 rfl) ?_
                      refine ng_4 C h d_Ni_read_112 ?_
                      refine lv_aload_n hx hb d_Ni_read_115 rfl (lv_at hl 1 rfl) ?_
                      refine ng_3 C h d_Ni_read_116 ?_
                      refine nl_3 C h d_Ni_read_119 ?_
                      refine lv_icmp_ne (tgt := 125) hx hb d_Ni_read_120 (by decide) (fun hc => ?_) (fun hc => ?_)
                      · have hf := op_f hc hf
                        refine lv_iinc (v := (v1 + 1)) (lv' := [(1, .int (v1 + 1)), (3, .int x105), (0, .ref (ad 0)), (2, .int x74)]) hx hb d_Ni_read_125 hl (k := 2) rfl rfl (by decide) rfl (fun ls hl => ?_)
                        refine lv_goto (tgt := 2) hx hb d_Ni_read_128 (by decide) ?_
                        exact ih (v1 + 1) I124 R125 _ hf ls (lv_sub hl [2, 0] rfl) H locs h
                      · have hf := op_t hc hf
                        refine lv_iconst (v := (-1)) hx hb d_Ni_read_123 (by decide) ?_
                        exact rt_ni C h hr hlk hf rfl d_Ni_read_124
                    · have hf := op_t hc hf
                      refine lv_aload_n hx hb d_Ni_read_83 rfl (lv_at hl 1 rfl) ?_
                      refine lv_bipush (v := 32) hx hb d_Ni_read_84 (by decide) ?_
                      obtain ⟨⟨x129, I127, R128⟩, hc126, hf⟩ := op_bind hf
                      try dsimp only at hf
                      refine kn_i (rest := []) C h hA (c_Ni_take l n tl 32 I106 R107) hc126 (cbW 1 hT cd_Ni_take rfl rfl ini_Ni ml_Ni_50 hd_Ni_take ⟨Nat.le_of_ble_eq_true rfl, Nat.le_of_ble_eq_true rfl⟩) im_Ni_take sp_Ni_take rfl hl.1 rfl (Nat.le_of_ble_eq_true rfl) d_Ni_read_86 ⟨Nat.zero_le _, Nat.zero_le _⟩ (fun H locs h => ?_)
                      refine lv_if_eq (tgt := 100) hx hb d_Ni_read_89 (by decide) (fun hc => ?_) (fun hc => ?_)
                      · have hf := op_t hc hf
                        refine lv_aload_n hx hb d_Ni_read_100 rfl (lv_at hl 1 rfl) ?_
                        refine ng_4 C h d_Ni_read_101 ?_
                        exact rt_ni C h hr hlk hf rfl d_Ni_read_104
                      · have hf := op_f hc hf
                        refine lv_aload_n hx hb d_Ni_read_92 rfl (lv_at hl 1 rfl) ?_
                        refine lv_iconst (v := 0) hx hb d_Ni_read_93 (by decide) ?_
                        obtain ⟨⟨x133, I131, R132⟩, hc130, hf⟩ := op_bind hf
                        try dsimp only at hf
                        refine kn_i (rest := []) C h hA (c_Ni_readEitherT l n tl 0 I127 R128) hc130 (cbW 1 hT cd_Ni_readEither rfl rfl ini_Ni ml_Ni_64 hd_Ni_readEither ⟨Nat.le_of_ble_eq_true rfl, Nat.le_of_ble_eq_true rfl⟩) im_Ni_readEither sp_Ni_readEither rfl hl.1 rfl (Nat.le_of_ble_eq_true rfl) d_Ni_read_94 ⟨Nat.zero_le _, Nat.zero_le _⟩ (fun H locs h => ?_)
                        refine lv_if_ne (tgt := 105) hx hb d_Ni_read_97 (by decide) (fun hc => ?_) (fun hc => ?_)
                        · have hf := op_f hc hf
                          refine lv_aload_n hx hb d_Ni_read_105 rfl (lv_at hl 1 rfl) ?_
                          refine lv_iload_n hx hb d_Ni_read_106 rfl (lv_at hl 3 rfl) ?_
                          refine lv_iload_n hx hb d_Ni_read_107 rfl (lv_at hl 0 rfl) ?_
                          obtain ⟨⟨I135, R136⟩, hc134, hf⟩ := op_bind hf
                          try dsimp only at hf
                          refine kn_v (rest := []) C h hA (c_Ni_addClause l n tl x74 x105 I131 R132) hc134 (cbW 2 hT cd_Ni_addClause rfl rfl ini_Ni ml_Ni_68 hd_Ni_addClause ⟨Nat.le_of_ble_eq_true rfl, Nat.le_of_ble_eq_true rfl⟩) im_Ni_addClause sp_Ni_addClause rfl hl.1 rfl (Nat.le_of_ble_eq_true rfl) d_Ni_read_108 ⟨Nat.zero_le _, Nat.zero_le _⟩ (fun H locs h => ?_)
                          refine lv_aload_n hx hb d_Ni_read_111 rfl (lv_at hl 1 rfl) ?_
                          refine ng_4 C h d_Ni_read_112 ?_
                          refine lv_aload_n hx hb d_Ni_read_115 rfl (lv_at hl 1 rfl) ?_
                          refine ng_3 C h d_Ni_read_116 ?_
                          refine nl_3 C h d_Ni_read_119 ?_
                          refine lv_icmp_ne (tgt := 125) hx hb d_Ni_read_120 (by decide) (fun hc => ?_) (fun hc => ?_)
                          · have hf := op_f hc hf
                            refine lv_iinc (v := (v1 + 1)) (lv' := [(1, .int (v1 + 1)), (3, .int x105), (0, .ref (ad 0)), (2, .int x74)]) hx hb d_Ni_read_125 hl (k := 2) rfl rfl (by decide) rfl (fun ls hl => ?_)
                            refine lv_goto (tgt := 2) hx hb d_Ni_read_128 (by decide) ?_
                            exact ih (v1 + 1) I135 R136 _ hf ls (lv_sub hl [2, 0] rfl) H locs h
                          · have hf := op_t hc hf
                            refine lv_iconst (v := (-1)) hx hb d_Ni_read_123 (by decide) ?_
                            exact rt_ni C h hr hlk hf rfl d_Ni_read_124
                        · have hf := op_t hc hf
                          refine lv_aload_n hx hb d_Ni_read_100 rfl (lv_at hl 1 rfl) ?_
                          refine ng_4 C h d_Ni_read_101 ?_
                          exact rt_ni C h hr hlk hf rfl d_Ni_read_104
                · have hf := op_f hc hf
                  refine lv_aload_n hx hb d_Ni_read_69 rfl (lv_at hl 1 rfl) ?_
                  refine ng_4 C h d_Ni_read_70 ?_
                  exact rt_ni C h hr hlk hf rfl d_Ni_read_73
              have hf := he
              refine lv_if_eq (tgt := 63) hx hb d_Ni_read_53 (by decide) (fun hc => ?_) (fun hc => ?_)
              · have hf := op_t hc hf
                refine lv_iconst (v := (-1)) hx hb d_Ni_read_63 (by decide) ?_
                obtain ⟨rfl, rfl, rfl⟩ := op_i3 hf
                exact K104 ls (lv_sub hl [2, 3, 1] rfl) H locs h
              · have hf := op_f hc hf
                refine lv_aload_n hx hb d_Ni_read_56 rfl (lv_at hl 2 rfl) ?_
                obtain ⟨⟨x111, I109, R110⟩, hc108, hf⟩ := op_bind hf
                try dsimp only at hf
                refine kn_i (rest := []) C h hA (c_Ni_readNumber l n tl I101 R102) hc108 (cbW 0 hT cd_Ni_readNumber rfl rfl ini_Ni ml_Ni_61 hd_Ni_readNumber ⟨Nat.le_of_ble_eq_true rfl, Nat.le_of_ble_eq_true rfl⟩) im_Ni_readNumber sp_Ni_readNumber rfl hl.1 rfl (Nat.le_of_ble_eq_true rfl) d_Ni_read_57 ⟨Nat.zero_le _, Nat.zero_le _⟩ (fun H locs h => ?_)
                refine lv_goto (tgt := 64) hx hb d_Ni_read_60 (by decide) ?_
                obtain ⟨rfl, rfl, rfl⟩ := op_i3 hf
                exact K104 ls (lv_sub hl [2, 3, 1] rfl) H locs h
          · have hf := op_f hc hf
            refine lv_aload_n hx hb d_Ni_read_35 rfl (lv_at hl 1 rfl) ?_
            refine ng_4 C h d_Ni_read_36 ?_
            exact rt_ni C h hr hlk hf rfl d_Ni_read_39
        · have hf := op_t hc hf
          refine lv_aload_n hx hb d_Ni_read_21 rfl (lv_at hl 0 rfl) ?_
          refine ng_4 C h d_Ni_read_22 ?_
          exact rt_ni C h hr hlk hf rfl d_Ni_read_25
def p_Ni_read (n : Nat) (tl : Nat)  (I : Nat → Int32) (R : Nat → Nat → Int32) : Option (Int32 × MU) := l_Ni_read_2 n tl n 0 I R
set_option maxHeartbeats 4000000 in
theorem c_Ni_read (l : Launch) (n : Nat) (tl : Nat)  (I : Nat → Int32) (R : Nat → Nat → Int32)  : NMi l y_Ni_read b_Ni_read 4 .int (rL 38) tl (fun ad adK => []) I R (p_Ni_read n tl I R) := by
  refine en_ni (by decide) rfl (fun _ _ => Nat.le_of_ble_eq_true rfl) ?_
  intro z hf p e s m args below meth c dC dI ad cI A adK adV ls C hA h hr hlk hl
  have hl : lv_has ls 4 [(0, .ref (ad 0))] := hl
  unfold p_Ni_read at hf
  obtain ⟨hx, hb, hml, hown, hT, -⟩ := id C
  refine lv_iconst (v := 0) hx hb d_Ni_read_0 (by decide) ?_
  refine lv_istore_n (lv' := [(1, .int 0), (0, .ref (ad 0))]) hx hb d_Ni_read_1 rfl hl (by decide) rfl (fun ls hl => ?_)
  exact wl_Ni_read_2 C hA hr hlk n  n 0 I R _ hf ls (lv_sub hl [1, 0] rfl) s.heap [] h
