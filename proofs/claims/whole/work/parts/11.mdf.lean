theorem hd_Md_least : y_Md_least.cls ≠ "java/lang/invoke/MethodHandle" ∧ y_Md_least.cls ≠ "java/lang/invoke/VarHandle" ∧ (parseMethodDescriptor y_Md_least.desc).map (fun d => d.parameters.length) = some 1 := by decide +kernel
theorem d_Md_least_0 : decode b_Md_least 0 = .ok (.aload_n 0, 1) := by decide +kernel
theorem d_Md_least_1 : decode b_Md_least 1 = .ok (.iload_n 1, 1) := by decide +kernel
theorem d_Md_least_2 : decode b_Md_least 2 = .ok (.invokevirtual 164, 3) := by decide +kernel
theorem d_Md_least_5 : decode b_Md_least 5 = .ok (.ifCond .eq 19, 3) := by decide +kernel
theorem d_Md_least_8 : decode b_Md_least 8 = .ok (.aload_n 0, 1) := by decide +kernel
theorem d_Md_least_9 : decode b_Md_least 9 = .ok (.aload_n 0, 1) := by decide +kernel
theorem d_Md_least_10 : decode b_Md_least 10 = .ok (.invokevirtual 190, 3) := by decide +kernel
theorem d_Md_least_13 : decode b_Md_least 13 = .ok (.iload_n 1, 1) := by decide +kernel
theorem d_Md_least_14 : decode b_Md_least 14 = .ok (.iconst (-1), 1) := by decide +kernel
theorem d_Md_least_15 : decode b_Md_least 15 = .ok (.invokevirtual 193, 3) := by decide +kernel
theorem d_Md_least_18 : decode b_Md_least 18 = .ok (.invokestatic 196, 3) := by decide +kernel
theorem d_Md_least_21 : decode b_Md_least 21 = .ok (.goto 5, 3) := by decide +kernel
theorem d_Md_least_24 : decode b_Md_least 24 = .ok (.bipush (-2), 2) := by decide +kernel
theorem d_Md_least_26 : decode b_Md_least 26 = .ok (.ireturn, 1) := by decide +kernel
def p_Md_least (n : Nat) (v1 : Int32) (I : Nat → Int32) (R : Nat → Nat → Int32) : Option (Int32 × MU) := (p_Md_isSet n v1 I R).bind fun x2 => (if x2 = 0 then some ((-2), I, R) else (p_Md_now n I R).bind fun x8 => (p_Md_leastFrom n x8 v1 (-1) I R).bind fun (x12, I10, R11) => (p_Md_orNone n x12).bind fun x14 => some (x14, I10, R11) : Option (Int32 × (Nat → Int32) × (Nat → Nat → Int32))).bind fun (x4, I5, R6) => some (x4, I5, R6)
set_option maxHeartbeats 4000000 in
theorem c_Md_least (l : Launch) (n : Nat) (v1 : Int32) (I : Nat → Int32) (R : Nat → Nat → Int32)  : MMi l y_Md_least b_Md_least 2 .int (rL 12) (fun ad adK => [.int v1]) I R (p_Md_least n v1 I R) := by
  refine en_mi (by decide) rfl (fun _ _ => Nat.le_of_ble_eq_true rfl) ?_
  intro z hf p e s m args below meth c dC dI ad cI cZ A adK adV ls C hA h hr hlk hl
  have hl : lv_has ls 2 [(0, .ref (ad 0)), (1, .int v1)] := hl
  unfold p_Md_least at hf
  obtain ⟨hx, hb, hml, hown, hT, -⟩ := id C
  refine lv_aload_n hx hb d_Md_least_0 rfl (lv_at hl 0 rfl) ?_
  refine lv_iload_n hx hb d_Md_least_1 rfl (lv_at hl 1 rfl) ?_
  obtain ⟨x2, hc1, hf⟩ := op_bind hf
  refine kc_r (rest := []) C h hA (c_Md_isSet l n v1 I R) hc1 (cbW 1 hT cd_Md_isSet rfl rfl ini_Md ml_Md_164 hd_Md_isSet ⟨Nat.le_of_ble_eq_true rfl, Nat.le_of_ble_eq_true rfl⟩) im_Md_isSet sp_Md_isSet rfl hl.1 rfl (Nat.le_of_ble_eq_true rfl) d_Md_least_2 ⟨Nat.zero_le _, Nat.zero_le _⟩ (fun H locs h => ?_)
  obtain ⟨⟨x4, I5, R6⟩, he, hf⟩ := op_bind hf
  try dsimp only at hf
  have K3 : ∀ (ls : Array Slot), lv_has ls 2 [] → ∀ (H : Heap) (locs : List Loc), mH A s.heap dC dI ad cI cZ I5 R6 H locs → W p l e (rL 12) s m args below meth c H locs 0 0 (mQi dC dI ad cI cZ A below args s z) (F0 m 26 ls [.int x4]) := by
    intro ls hl H locs h
    exact rt_mi C h hr hlk hf rfl d_Md_least_26
  have hf := he
  refine lv_if_eq (tgt := 24) hx hb d_Md_least_5 (by decide) (fun hc => ?_) (fun hc => ?_)
  · have hf := op_t hc hf
    refine lv_bipush (v := (-2)) hx hb d_Md_least_24 (by decide) ?_
    obtain ⟨rfl, rfl, rfl⟩ := op_i3 hf
    exact K3 ls (lv_sub hl [] rfl) H locs h
  · have hf := op_f hc hf
    refine lv_aload_n hx hb d_Md_least_8 rfl (lv_at hl 0 rfl) ?_
    refine lv_aload_n hx hb d_Md_least_9 rfl (lv_at hl 0 rfl) ?_
    obtain ⟨x8, hc7, hf⟩ := op_bind hf
    refine kc_r (rest := [.ref (ad 0)]) C h hA (c_Md_now l n I R) hc7 (cbW 0 hT cd_Md_now rfl rfl ini_Md ml_Md_190 hd_Md_now ⟨Nat.le_of_ble_eq_true rfl, Nat.le_of_ble_eq_true rfl⟩) im_Md_now sp_Md_now rfl hl.1 rfl (Nat.le_of_ble_eq_true rfl) d_Md_least_10 ⟨Nat.zero_le _, Nat.zero_le _⟩ (fun H locs h => ?_)
    refine lv_iload_n hx hb d_Md_least_13 rfl (lv_at hl 1 rfl) ?_
    refine lv_iconst (v := (-1)) hx hb d_Md_least_14 (by decide) ?_
    obtain ⟨⟨x12, I10, R11⟩, hc9, hf⟩ := op_bind hf
    try dsimp only at hf
    refine kc_i (rest := []) C h hA (c_Md_leastFrom l n x8 v1 (-1) I R) hc9 (cbW 3 hT cd_Md_leastFrom rfl rfl ini_Md ml_Md_193 hd_Md_leastFrom ⟨Nat.le_of_ble_eq_true rfl, Nat.le_of_ble_eq_true rfl⟩) im_Md_leastFrom sp_Md_leastFrom rfl hl.1 rfl (Nat.le_of_ble_eq_true rfl) d_Md_least_15 ⟨Nat.zero_le _, Nat.zero_le _⟩ (fun H locs h => ?_)
    obtain ⟨x14, hc13, hf⟩ := op_bind hf
    refine ks_i (rest := []) hx hb hml hown hT (c_Md_orNone l n x12 _ hc13) (cbW 1 hT cd_Md_orNone rfl rfl ini_Md ml_Md_196 hd_Md_orNone ⟨Nat.le_of_ble_eq_true rfl, Nat.le_of_ble_eq_true rfl⟩) sm_Md_orNone rfl hl.1 rfl (Nat.le_of_ble_eq_true rfl) d_Md_least_18 ⟨Nat.zero_le _, Nat.zero_le _⟩ ?_
    refine lv_goto (tgt := 26) hx hb d_Md_least_21 (by decide) ?_
    obtain ⟨rfl, rfl, rfl⟩ := op_i3 hf
    exact K3 ls (lv_sub hl [] rfl) H locs h
theorem hd_Md_first : y_Md_first.cls ≠ "java/lang/invoke/MethodHandle" ∧ y_Md_first.cls ≠ "java/lang/invoke/VarHandle" ∧ (parseMethodDescriptor y_Md_first.desc).map (fun d => d.parameters.length) = some 1 := by decide +kernel
theorem d_Md_first_0 : decode b_Md_first 0 = .ok (.aload_n 0, 1) := by decide +kernel
theorem d_Md_first_1 : decode b_Md_first 1 = .ok (.iload_n 1, 1) := by decide +kernel
theorem d_Md_first_2 : decode b_Md_first 2 = .ok (.invokevirtual 164, 3) := by decide +kernel
theorem d_Md_first_5 : decode b_Md_first 5 = .ok (.ifCond .ne 6, 3) := by decide +kernel
theorem d_Md_first_8 : decode b_Md_first 8 = .ok (.bipush (-2), 2) := by decide +kernel
theorem d_Md_first_10 : decode b_Md_first 10 = .ok (.ireturn, 1) := by decide +kernel
theorem d_Md_first_11 : decode b_Md_first 11 = .ok (.aload_n 0, 1) := by decide +kernel
theorem d_Md_first_12 : decode b_Md_first 12 = .ok (.aload_n 0, 1) := by decide +kernel
theorem d_Md_first_13 : decode b_Md_first 13 = .ok (.invokevirtual 190, 3) := by decide +kernel
theorem d_Md_first_16 : decode b_Md_first 16 = .ok (.iload_n 1, 1) := by decide +kernel
theorem d_Md_first_17 : decode b_Md_first 17 = .ok (.iconst (-1), 1) := by decide +kernel
theorem d_Md_first_18 : decode b_Md_first 18 = .ok (.invokevirtual 193, 3) := by decide +kernel
theorem d_Md_first_21 : decode b_Md_first 21 = .ok (.istore_n 2, 1) := by decide +kernel
theorem d_Md_first_22 : decode b_Md_first 22 = .ok (.iload_n 2, 1) := by decide +kernel
theorem d_Md_first_23 : decode b_Md_first 23 = .ok (.ldc 176, 2) := by decide +kernel
theorem d_Md_first_25 : decode b_Md_first 25 = .ok (.if_icmp .eq 7, 3) := by decide +kernel
theorem d_Md_first_28 : decode b_Md_first 28 = .ok (.iload_n 2, 1) := by decide +kernel
theorem d_Md_first_29 : decode b_Md_first 29 = .ok (.ifCond .ne 6, 3) := by decide +kernel
theorem d_Md_first_32 : decode b_Md_first 32 = .ok (.bipush (-5), 2) := by decide +kernel
theorem d_Md_first_34 : decode b_Md_first 34 = .ok (.ireturn, 1) := by decide +kernel
theorem d_Md_first_35 : decode b_Md_first 35 = .ok (.aload_n 0, 1) := by decide +kernel
theorem d_Md_first_36 : decode b_Md_first 36 = .ok (.iload_n 1, 1) := by decide +kernel
theorem d_Md_first_37 : decode b_Md_first 37 = .ok (.invokevirtual 199, 3) := by decide +kernel
theorem d_Md_first_40 : decode b_Md_first 40 = .ok (.aload_n 0, 1) := by decide +kernel
theorem d_Md_first_41 : decode b_Md_first 41 = .ok (.getfield 9, 3) := by decide +kernel
theorem d_Md_first_44 : decode b_Md_first 44 = .ok (.bipush 8, 2) := by decide +kernel
theorem d_Md_first_46 : decode b_Md_first 46 = .ok (.iaload, 1) := by decide +kernel
theorem d_Md_first_47 : decode b_Md_first 47 = .ok (.istore_n 3, 1) := by decide +kernel
theorem d_Md_first_48 : decode b_Md_first 48 = .ok (.iconst 1, 1) := by decide +kernel
theorem d_Md_first_49 : decode b_Md_first 49 = .ok (.istore 4, 2) := by decide +kernel
theorem d_Md_first_51 : decode b_Md_first 51 = .ok (.iload 4, 2) := by decide +kernel
theorem d_Md_first_53 : decode b_Md_first 53 = .ok (.aload_n 0, 1) := by decide +kernel
theorem d_Md_first_54 : decode b_Md_first 54 = .ok (.invokevirtual 48, 3) := by decide +kernel
theorem d_Md_first_57 : decode b_Md_first 57 = .ok (.if_icmp .gt 77, 3) := by decide +kernel
theorem d_Md_first_60 : decode b_Md_first 60 = .ok (.aload_n 0, 1) := by decide +kernel
theorem d_Md_first_61 : decode b_Md_first 61 = .ok (.getfield 25, 3) := by decide +kernel
theorem d_Md_first_64 : decode b_Md_first 64 = .ok (.bipush 64, 2) := by decide +kernel
theorem d_Md_first_66 : decode b_Md_first 66 = .ok (.iload_n 3, 1) := by decide +kernel
theorem d_Md_first_67 : decode b_Md_first 67 = .ok (.imul, 1) := by decide +kernel
theorem d_Md_first_68 : decode b_Md_first 68 = .ok (.iload 4, 2) := by decide +kernel
theorem d_Md_first_70 : decode b_Md_first 70 = .ok (.iadd, 1) := by decide +kernel
theorem d_Md_first_71 : decode b_Md_first 71 = .ok (.iaload, 1) := by decide +kernel
theorem d_Md_first_72 : decode b_Md_first 72 = .ok (.istore 5, 2) := by decide +kernel
theorem d_Md_first_74 : decode b_Md_first 74 = .ok (.iload 5, 2) := by decide +kernel
theorem d_Md_first_76 : decode b_Md_first 76 = .ok (.iconst (-1), 1) := by decide +kernel
theorem d_Md_first_77 : decode b_Md_first 77 = .ok (.if_icmp .eq 51, 3) := by decide +kernel
theorem d_Md_first_80 : decode b_Md_first 80 = .ok (.iload 4, 2) := by decide +kernel
theorem d_Md_first_82 : decode b_Md_first 82 = .ok (.aload_n 0, 1) := by decide +kernel
theorem d_Md_first_83 : decode b_Md_first 83 = .ok (.getfield 9, 3) := by decide +kernel
theorem d_Md_first_86 : decode b_Md_first 86 = .ok (.bipush 9, 2) := by decide +kernel
theorem d_Md_first_88 : decode b_Md_first 88 = .ok (.iaload, 1) := by decide +kernel
theorem d_Md_first_89 : decode b_Md_first 89 = .ok (.iload_n 3, 1) := by decide +kernel
theorem d_Md_first_90 : decode b_Md_first 90 = .ok (.invokestatic 173, 3) := by decide +kernel
theorem d_Md_first_93 : decode b_Md_first 93 = .ok (.ifCond .eq 35, 3) := by decide +kernel
theorem d_Md_first_96 : decode b_Md_first 96 = .ok (.iload 5, 2) := by decide +kernel
theorem d_Md_first_98 : decode b_Md_first 98 = .ok (.aload_n 0, 1) := by decide +kernel
theorem d_Md_first_99 : decode b_Md_first 99 = .ok (.getfield 34, 3) := by decide +kernel
theorem d_Md_first_102 : decode b_Md_first 102 = .ok (.aload_n 0, 1) := by decide +kernel
theorem d_Md_first_103 : decode b_Md_first 103 = .ok (.getfield 9, 3) := by decide +kernel
theorem d_Md_first_106 : decode b_Md_first 106 = .ok (.bipush 9, 2) := by decide +kernel
theorem d_Md_first_108 : decode b_Md_first 108 = .ok (.iaload, 1) := by decide +kernel
theorem d_Md_first_109 : decode b_Md_first 109 = .ok (.iload 4, 2) := by decide +kernel
theorem d_Md_first_111 : decode b_Md_first 111 = .ok (.ixor, 1) := by decide +kernel
theorem d_Md_first_112 : decode b_Md_first 112 = .ok (.bipush 64, 2) := by decide +kernel
theorem d_Md_first_114 : decode b_Md_first 114 = .ok (.iconst 1, 1) := by decide +kernel
theorem d_Md_first_115 : decode b_Md_first 115 = .ok (.iload_n 3, 1) := by decide +kernel
theorem d_Md_first_116 : decode b_Md_first 116 = .ok (.isub, 1) := by decide +kernel
theorem d_Md_first_117 : decode b_Md_first 117 = .ok (.imul, 1) := by decide +kernel
theorem d_Md_first_118 : decode b_Md_first 118 = .ok (.iadd, 1) := by decide +kernel
theorem d_Md_first_119 : decode b_Md_first 119 = .ok (.iaload, 1) := by decide +kernel
theorem d_Md_first_120 : decode b_Md_first 120 = .ok (.iadd, 1) := by decide +kernel
theorem d_Md_first_121 : decode b_Md_first 121 = .ok (.iload_n 2, 1) := by decide +kernel
theorem d_Md_first_122 : decode b_Md_first 122 = .ok (.if_icmp .ne 6, 3) := by decide +kernel
theorem d_Md_first_125 : decode b_Md_first 125 = .ok (.iload 4, 2) := by decide +kernel
theorem d_Md_first_127 : decode b_Md_first 127 = .ok (.ireturn, 1) := by decide +kernel
theorem d_Md_first_128 : decode b_Md_first 128 = .ok (.iinc 4 1, 3) := by decide +kernel
theorem d_Md_first_131 : decode b_Md_first 131 = .ok (.goto (-80), 3) := by decide +kernel
theorem d_Md_first_134 : decode b_Md_first 134 = .ok (.bipush (-5), 2) := by decide +kernel
theorem d_Md_first_136 : decode b_Md_first 136 = .ok (.ireturn, 1) := by decide +kernel
def l_Md_first_51 (n : Nat)  (v2 : Int32) (v3 : Int32) (I : Nat → Int32) (R : Nat → Nat → Int32) : Nat → Int32 → Option (Int32 × MU)
  | 0, _ => none
  | k + 1, v4 => (p_Md_all n I R).bind fun x13 => (if x13 < v4 then some ((-5), I, R) else if ix ((64 * v3) + v4) 128 then (if (R 13 ((64 * v3) + v4).toNatClampNeg) = (-1) then l_Md_first_51 n v2 v3 I R k (v4 + 1) else (p_Md_areHere n v4 (R 1 9) v3).bind fun x16 => (if x16 = 0 then l_Md_first_51 n v2 v3 I R k (v4 + 1) else if ix ((((R 1 9) ^^^ v4) + (64 * (1 - v3)))) 128 then (if ((R 13 ((64 * v3) + v4).toNatClampNeg) + (R 16 ((((R 1 9) ^^^ v4) + (64 * (1 - v3)))).toNatClampNeg)) = v2 then some (v4, I, R) else l_Md_first_51 n v2 v3 I R k (v4 + 1)) else none)) else none)
set_option maxHeartbeats 4000000 in
theorem wl_Md_first_51  {p : Program} {l : Launch} {e : Env} {s : State} {m : MethodId} {args : Array Value} {below : List Frame} {meth : Method} {c : Code} {dC : Nat → ClassId} {dI : Nat → Nat → Nat} {ad : Nat → Nat} {cI cZ : ClassId} {A : Nat → Prop} {adK adV : Nat → Nat} (C : mC p s m args c b_Md_first 6 dC dI cI cZ A adK adV) (hA : ∀ q, s.heap.size ≤ q → A q) (hr : meth.sig.returnType = some .int) (hlk : meth.locks = false) (n : Nat)  (v2 : Int32) (v3 : Int32) (I : Nat → Int32) (R : Nat → Nat → Int32) : ∀ (k : Nat) (v4 : Int32) (z : Int32 × MU), l_Md_first_51 n v2 v3 I R k v4 = some z → ∀ (ls : Array Slot), lv_has ls 6 [(0, .ref (ad 0)), (2, .int v2), (3, .int v3), (4, .int v4)] → ∀ (H : Heap) (locs : List Loc), mH A s.heap dC dI ad cI cZ I R H locs → W p l e (rL 12) s m args below meth c H locs 0 0 (mQi dC dI ad cI cZ A below args s z) (F0 m 51 ls []) := by
  obtain ⟨hx, hb, hml, hown, hT, -⟩ := id C
  intro k
  induction k with
  | zero => intro v4 z hf; exact absurd hf (by unfold l_Md_first_51; exact fun h9 => by cases h9)
  | succ k ih =>
    intro v4 z hf ls hl H locs h
    unfold l_Md_first_51 at hf
    refine lv_iload hx hb d_Md_first_51 (lv_at hl 3 rfl) ?_
    refine lv_aload_n hx hb d_Md_first_53 rfl (lv_at hl 0 rfl) ?_
    obtain ⟨x13, hc12, hf⟩ := op_bind hf
    refine kc_r (rest := [.int v4]) C h hA (c_Md_all l n I R) hc12 (cbW 0 hT cd_Md_all rfl rfl ini_Md ml_Md_48 hd_Md_all ⟨Nat.le_of_ble_eq_true rfl, Nat.le_of_ble_eq_true rfl⟩) im_Md_all sp_Md_all rfl hl.1 rfl (Nat.le_of_ble_eq_true rfl) d_Md_first_54 ⟨Nat.zero_le _, Nat.zero_le _⟩ (fun H locs h => ?_)
    refine lv_icmp_gt (tgt := 134) hx hb d_Md_first_57 (by decide) (fun hc => ?_) (fun hc => ?_)
    · have hf := op_t hc hf
      refine lv_bipush (v := (-5)) hx hb d_Md_first_134 (by decide) ?_
      exact rt_mi C h hr hlk hf rfl d_Md_first_136
    · have hf := op_f hc hf
      refine lv_aload_n hx hb d_Md_first_60 rfl (lv_at hl 0 rfl) ?_
      refine mg_13 C h d_Md_first_61 ?_
      refine lv_bipush (v := 64) hx hb d_Md_first_64 (by decide) ?_
      refine lv_iload_n hx hb d_Md_first_66 rfl (lv_at hl 2 rfl) ?_
      refine lv_imul hx hb d_Md_first_67 ?_
      refine lv_iload hx hb d_Md_first_68 (lv_at hl 3 rfl) ?_
      refine lv_iadd hx hb d_Md_first_70 ?_
      obtain ⟨h14, hf⟩ := op_if hf
      refine ma_13 C h rfl h14 d_Md_first_71 ?_
      refine lv_istore (lv' := [(5, .int (R 13 ((64 * v3) + v4).toNatClampNeg)), (0, .ref (ad 0)), (2, .int v2), (3, .int v3), (4, .int v4)]) hx hb d_Md_first_72 hl (by decide) rfl (fun ls hl => ?_)
      refine lv_iload hx hb d_Md_first_74 (lv_at hl 0 rfl) ?_
      refine lv_iconst (v := (-1)) hx hb d_Md_first_76 (by decide) ?_
      refine lv_icmp_eq (tgt := 128) hx hb d_Md_first_77 (by decide) (fun hc => ?_) (fun hc => ?_)
      · have hf := op_t hc hf
        refine lv_iinc (v := (v4 + 1)) (lv' := [(4, .int (v4 + 1)), (5, .int (R 13 ((64 * v3) + v4).toNatClampNeg)), (0, .ref (ad 0)), (2, .int v2), (3, .int v3)]) hx hb d_Md_first_128 hl (k := 4) rfl rfl (by decide) rfl (fun ls hl => ?_)
        refine lv_goto (tgt := 51) hx hb d_Md_first_131 (by decide) ?_
        exact ih (v4 + 1) _ hf ls (lv_sub hl [2, 3, 4, 0] rfl) H locs h
      · have hf := op_f hc hf
        refine lv_iload hx hb d_Md_first_80 (lv_at hl 4 rfl) ?_
        refine lv_aload_n hx hb d_Md_first_82 rfl (lv_at hl 1 rfl) ?_
        refine mg_1 C h d_Md_first_83 ?_
        refine lv_bipush (v := 9) hx hb d_Md_first_86 (by decide) ?_
        refine ma_1 C h (j := 9) (by decide) (show ix 9 890 by decide) d_Md_first_88 ?_
        refine lv_iload_n hx hb d_Md_first_89 rfl (lv_at hl 3 rfl) ?_
        obtain ⟨x16, hc15, hf⟩ := op_bind hf
        refine ks_i (rest := []) hx hb hml hown hT (c_Md_areHere l n v4 (R 1 9) v3 _ hc15) (cbW 3 hT cd_Md_areHere rfl rfl ini_Md ml_Md_173 hd_Md_areHere ⟨Nat.le_of_ble_eq_true rfl, Nat.le_of_ble_eq_true rfl⟩) sm_Md_areHere rfl hl.1 rfl (Nat.le_of_ble_eq_true rfl) d_Md_first_90 ⟨Nat.zero_le _, Nat.zero_le _⟩ ?_
        refine lv_if_eq (tgt := 128) hx hb d_Md_first_93 (by decide) (fun hc => ?_) (fun hc => ?_)
        · have hf := op_t hc hf
          refine lv_iinc (v := (v4 + 1)) (lv' := [(4, .int (v4 + 1)), (5, .int (R 13 ((64 * v3) + v4).toNatClampNeg)), (0, .ref (ad 0)), (2, .int v2), (3, .int v3)]) hx hb d_Md_first_128 hl (k := 4) rfl rfl (by decide) rfl (fun ls hl => ?_)
          refine lv_goto (tgt := 51) hx hb d_Md_first_131 (by decide) ?_
          exact ih (v4 + 1) _ hf ls (lv_sub hl [2, 3, 4, 0] rfl) H locs h
        · have hf := op_f hc hf
          refine lv_iload hx hb d_Md_first_96 (lv_at hl 0 rfl) ?_
          refine lv_aload_n hx hb d_Md_first_98 rfl (lv_at hl 1 rfl) ?_
          refine mg_16 C h d_Md_first_99 ?_
          refine lv_aload_n hx hb d_Md_first_102 rfl (lv_at hl 1 rfl) ?_
          refine mg_1 C h d_Md_first_103 ?_
          refine lv_bipush (v := 9) hx hb d_Md_first_106 (by decide) ?_
          refine ma_1 C h (j := 9) (by decide) (show ix 9 890 by decide) d_Md_first_108 ?_
          refine lv_iload hx hb d_Md_first_109 (lv_at hl 4 rfl) ?_
          refine lv_ixor hx hb d_Md_first_111 ?_
          refine lv_bipush (v := 64) hx hb d_Md_first_112 (by decide) ?_
          refine lv_iconst (v := 1) hx hb d_Md_first_114 (by decide) ?_
          refine lv_iload_n hx hb d_Md_first_115 rfl (lv_at hl 3 rfl) ?_
          refine lv_isub hx hb d_Md_first_116 ?_
          refine lv_imul hx hb d_Md_first_117 ?_
          refine lv_iadd hx hb d_Md_first_118 ?_
          obtain ⟨h17, hf⟩ := op_if hf
          refine ma_16 C h rfl h17 d_Md_first_119 ?_
          refine lv_iadd hx hb d_Md_first_120 ?_
          refine lv_iload_n hx hb d_Md_first_121 rfl (lv_at hl 2 rfl) ?_
          refine lv_icmp_ne (tgt := 128) hx hb d_Md_first_122 (by decide) (fun hc => ?_) (fun hc => ?_)
          · have hf := op_f hc hf
            refine lv_iinc (v := (v4 + 1)) (lv' := [(4, .int (v4 + 1)), (5, .int (R 13 ((64 * v3) + v4).toNatClampNeg)), (0, .ref (ad 0)), (2, .int v2), (3, .int v3)]) hx hb d_Md_first_128 hl (k := 4) rfl rfl (by decide) rfl (fun ls hl => ?_)
            refine lv_goto (tgt := 51) hx hb d_Md_first_131 (by decide) ?_
            exact ih (v4 + 1) _ hf ls (lv_sub hl [2, 3, 4, 0] rfl) H locs h
          · have hf := op_t hc hf
            refine lv_iload hx hb d_Md_first_125 (lv_at hl 4 rfl) ?_
            exact rt_mi C h hr hlk hf rfl d_Md_first_127
def p_Md_first (n : Nat) (v1 : Int32) (I : Nat → Int32) (R : Nat → Nat → Int32) : Option (Int32 × MU) := (p_Md_isSet n v1 I R).bind fun x2 => (if x2 = 0 then some ((-2), I, R) else (p_Md_now n I R).bind fun x4 => (p_Md_leastFrom n x4 v1 (-1) I R).bind fun (x8, I6, R7) => (if x8 = 1000000 then some ((-5), I6, R7) else (if x8 = 0 then some ((-5), I6, R7) else (p_Md_looksToward n v1 I6 R7).bind fun (I10, R11) => l_Md_first_51 n x8 (R11 1 8) I10 R11 n 1)))
set_option maxHeartbeats 4000000 in
theorem c_Md_first (l : Launch) (n : Nat) (v1 : Int32) (I : Nat → Int32) (R : Nat → Nat → Int32)  : MMi l y_Md_first b_Md_first 6 .int (rL 12) (fun ad adK => [.int v1]) I R (p_Md_first n v1 I R) := by
  refine en_mi (by decide) rfl (fun _ _ => Nat.le_of_ble_eq_true rfl) ?_
  intro z hf p e s m args below meth c dC dI ad cI cZ A adK adV ls C hA h hr hlk hl
  have hl : lv_has ls 6 [(0, .ref (ad 0)), (1, .int v1)] := hl
  unfold p_Md_first at hf
  obtain ⟨hx, hb, hml, hown, hT, -⟩ := id C
  refine lv_aload_n hx hb d_Md_first_0 rfl (lv_at hl 0 rfl) ?_
  refine lv_iload_n hx hb d_Md_first_1 rfl (lv_at hl 1 rfl) ?_
  obtain ⟨x2, hc1, hf⟩ := op_bind hf
  refine kc_r (rest := []) C h hA (c_Md_isSet l n v1 I R) hc1 (cbW 1 hT cd_Md_isSet rfl rfl ini_Md ml_Md_164 hd_Md_isSet ⟨Nat.le_of_ble_eq_true rfl, Nat.le_of_ble_eq_true rfl⟩) im_Md_isSet sp_Md_isSet rfl hl.1 rfl (Nat.le_of_ble_eq_true rfl) d_Md_first_2 ⟨Nat.zero_le _, Nat.zero_le _⟩ (fun H locs h => ?_)
  refine lv_if_ne (tgt := 11) hx hb d_Md_first_5 (by decide) (fun hc => ?_) (fun hc => ?_)
  · have hf := op_f hc hf
    refine lv_aload_n hx hb d_Md_first_11 rfl (lv_at hl 0 rfl) ?_
    refine lv_aload_n hx hb d_Md_first_12 rfl (lv_at hl 0 rfl) ?_
    obtain ⟨x4, hc3, hf⟩ := op_bind hf
    refine kc_r (rest := [.ref (ad 0)]) C h hA (c_Md_now l n I R) hc3 (cbW 0 hT cd_Md_now rfl rfl ini_Md ml_Md_190 hd_Md_now ⟨Nat.le_of_ble_eq_true rfl, Nat.le_of_ble_eq_true rfl⟩) im_Md_now sp_Md_now rfl hl.1 rfl (Nat.le_of_ble_eq_true rfl) d_Md_first_13 ⟨Nat.zero_le _, Nat.zero_le _⟩ (fun H locs h => ?_)
    refine lv_iload_n hx hb d_Md_first_16 rfl (lv_at hl 1 rfl) ?_
    refine lv_iconst (v := (-1)) hx hb d_Md_first_17 (by decide) ?_
    obtain ⟨⟨x8, I6, R7⟩, hc5, hf⟩ := op_bind hf
    try dsimp only at hf
    refine kc_i (rest := []) C h hA (c_Md_leastFrom l n x4 v1 (-1) I R) hc5 (cbW 3 hT cd_Md_leastFrom rfl rfl ini_Md ml_Md_193 hd_Md_leastFrom ⟨Nat.le_of_ble_eq_true rfl, Nat.le_of_ble_eq_true rfl⟩) im_Md_leastFrom sp_Md_leastFrom rfl hl.1 rfl (Nat.le_of_ble_eq_true rfl) d_Md_first_18 ⟨Nat.zero_le _, Nat.zero_le _⟩ (fun H locs h => ?_)
    refine lv_istore_n (lv' := [(2, .int x8), (0, .ref (ad 0)), (1, .int v1)]) hx hb d_Md_first_21 rfl hl (by decide) rfl (fun ls hl => ?_)
    refine lv_iload_n hx hb d_Md_first_22 rfl (lv_at hl 0 rfl) ?_
    refine lv_ldc (v := 1000000) hx hb hown (hT _ ko_Md_176) d_Md_first_23 ?_
    refine lv_icmp_eq (tgt := 32) hx hb d_Md_first_25 (by decide) (fun hc => ?_) (fun hc => ?_)
    · have hf := op_t hc hf
      refine lv_bipush (v := (-5)) hx hb d_Md_first_32 (by decide) ?_
      exact rt_mi C h hr hlk hf rfl d_Md_first_34
    · have hf := op_f hc hf
      refine lv_iload_n hx hb d_Md_first_28 rfl (lv_at hl 0 rfl) ?_
      refine lv_if_ne (tgt := 35) hx hb d_Md_first_29 (by decide) (fun hc => ?_) (fun hc => ?_)
      · have hf := op_f hc hf
        refine lv_aload_n hx hb d_Md_first_35 rfl (lv_at hl 1 rfl) ?_
        refine lv_iload_n hx hb d_Md_first_36 rfl (lv_at hl 2 rfl) ?_
        obtain ⟨⟨I10, R11⟩, hc9, hf⟩ := op_bind hf
        try dsimp only at hf
        refine kc_v (rest := []) C h hA (c_Md_looksToward l n v1 I6 R7) hc9 (cbW 1 hT cd_Md_looksToward rfl rfl ini_Md ml_Md_199 hd_Md_looksToward ⟨Nat.le_of_ble_eq_true rfl, Nat.le_of_ble_eq_true rfl⟩) im_Md_looksToward sp_Md_looksToward rfl hl.1 rfl (Nat.le_of_ble_eq_true rfl) d_Md_first_37 ⟨Nat.zero_le _, Nat.zero_le _⟩ (fun H locs h => ?_)
        refine lv_aload_n hx hb d_Md_first_40 rfl (lv_at hl 1 rfl) ?_
        refine mg_1 C h d_Md_first_41 ?_
        refine lv_bipush (v := 8) hx hb d_Md_first_44 (by decide) ?_
        refine ma_1 C h (j := 8) (by decide) (show ix 8 890 by decide) d_Md_first_46 ?_
        refine lv_istore_n (lv' := [(3, .int (R11 1 8)), (2, .int x8), (0, .ref (ad 0)), (1, .int v1)]) hx hb d_Md_first_47 rfl hl (by decide) rfl (fun ls hl => ?_)
        refine lv_iconst (v := 1) hx hb d_Md_first_48 (by decide) ?_
        refine lv_istore (lv' := [(4, .int 1), (3, .int (R11 1 8)), (2, .int x8), (0, .ref (ad 0)), (1, .int v1)]) hx hb d_Md_first_49 hl (by decide) rfl (fun ls hl => ?_)
        exact wl_Md_first_51 C hA hr hlk n x8 (R11 1 8) I10 R11 n 1 _ hf ls (lv_sub hl [3, 2, 1, 0] rfl) H locs h
      · have hf := op_t hc hf
        refine lv_bipush (v := (-5)) hx hb d_Md_first_32 (by decide) ?_
        exact rt_mi C h hr hlk hf rfl d_Md_first_34
  · have hf := op_t hc hf
    refine lv_bipush (v := (-2)) hx hb d_Md_first_8 (by decide) ?_
    exact rt_mi C h hr hlk hf rfl d_Md_first_10
theorem hd_Md_quicker : y_Md_quicker.cls ≠ "java/lang/invoke/MethodHandle" ∧ y_Md_quicker.cls ≠ "java/lang/invoke/VarHandle" ∧ (parseMethodDescriptor y_Md_quicker.desc).map (fun d => d.parameters.length) = some 1 := by decide +kernel
theorem d_Md_quicker_0 : decode b_Md_quicker 0 = .ok (.aload_n 0, 1) := by decide +kernel
theorem d_Md_quicker_1 : decode b_Md_quicker 1 = .ok (.iload_n 1, 1) := by decide +kernel
theorem d_Md_quicker_2 : decode b_Md_quicker 2 = .ok (.invokevirtual 131, 3) := by decide +kernel
theorem d_Md_quicker_5 : decode b_Md_quicker 5 = .ok (.ifCond .ne 5, 3) := by decide +kernel
theorem d_Md_quicker_8 : decode b_Md_quicker 8 = .ok (.iconst (-1), 1) := by decide +kernel
theorem d_Md_quicker_9 : decode b_Md_quicker 9 = .ok (.ireturn, 1) := by decide +kernel
theorem d_Md_quicker_10 : decode b_Md_quicker 10 = .ok (.aload_n 0, 1) := by decide +kernel
theorem d_Md_quicker_11 : decode b_Md_quicker 11 = .ok (.getfield 9, 3) := by decide +kernel
theorem d_Md_quicker_14 : decode b_Md_quicker 14 = .ok (.bipush 22, 2) := by decide +kernel
theorem d_Md_quicker_16 : decode b_Md_quicker 16 = .ok (.iload_n 1, 1) := by decide +kernel
theorem d_Md_quicker_17 : decode b_Md_quicker 17 = .ok (.iadd, 1) := by decide +kernel
theorem d_Md_quicker_18 : decode b_Md_quicker 18 = .ok (.iaload, 1) := by decide +kernel
theorem d_Md_quicker_19 : decode b_Md_quicker 19 = .ok (.iconst 1, 1) := by decide +kernel
theorem d_Md_quicker_20 : decode b_Md_quicker 20 = .ok (.if_icmp .ne 5, 3) := by decide +kernel
theorem d_Md_quicker_23 : decode b_Md_quicker 23 = .ok (.iconst 0, 1) := by decide +kernel
theorem d_Md_quicker_24 : decode b_Md_quicker 24 = .ok (.ireturn, 1) := by decide +kernel
theorem d_Md_quicker_25 : decode b_Md_quicker 25 = .ok (.aload_n 0, 1) := by decide +kernel
theorem d_Md_quicker_26 : decode b_Md_quicker 26 = .ok (.aload_n 0, 1) := by decide +kernel
theorem d_Md_quicker_27 : decode b_Md_quicker 27 = .ok (.invokevirtual 190, 3) := by decide +kernel
theorem d_Md_quicker_30 : decode b_Md_quicker 30 = .ok (.aload_n 0, 1) := by decide +kernel
theorem d_Md_quicker_31 : decode b_Md_quicker 31 = .ok (.invokevirtual 48, 3) := by decide +kernel
theorem d_Md_quicker_34 : decode b_Md_quicker 34 = .ok (.iconst (-1), 1) := by decide +kernel
theorem d_Md_quicker_35 : decode b_Md_quicker 35 = .ok (.invokevirtual 193, 3) := by decide +kernel
theorem d_Md_quicker_38 : decode b_Md_quicker 38 = .ok (.istore_n 2, 1) := by decide +kernel
theorem d_Md_quicker_39 : decode b_Md_quicker 39 = .ok (.iload_n 2, 1) := by decide +kernel
theorem d_Md_quicker_40 : decode b_Md_quicker 40 = .ok (.ldc 176, 2) := by decide +kernel
theorem d_Md_quicker_42 : decode b_Md_quicker 42 = .ok (.if_icmp .ne 6, 3) := by decide +kernel
theorem d_Md_quicker_45 : decode b_Md_quicker 45 = .ok (.bipush (-5), 2) := by decide +kernel
theorem d_Md_quicker_47 : decode b_Md_quicker 47 = .ok (.ireturn, 1) := by decide +kernel
theorem d_Md_quicker_48 : decode b_Md_quicker 48 = .ok (.aload_n 0, 1) := by decide +kernel
theorem d_Md_quicker_49 : decode b_Md_quicker 49 = .ok (.getfield 9, 3) := by decide +kernel
theorem d_Md_quicker_52 : decode b_Md_quicker 52 = .ok (.bipush 22, 2) := by decide +kernel
theorem d_Md_quicker_54 : decode b_Md_quicker 54 = .ok (.iload_n 1, 1) := by decide +kernel
theorem d_Md_quicker_55 : decode b_Md_quicker 55 = .ok (.iadd, 1) := by decide +kernel
theorem d_Md_quicker_56 : decode b_Md_quicker 56 = .ok (.dup2, 1) := by decide +kernel
theorem d_Md_quicker_57 : decode b_Md_quicker 57 = .ok (.iaload, 1) := by decide +kernel
theorem d_Md_quicker_58 : decode b_Md_quicker 58 = .ok (.iconst 1, 1) := by decide +kernel
theorem d_Md_quicker_59 : decode b_Md_quicker 59 = .ok (.isub, 1) := by decide +kernel
theorem d_Md_quicker_60 : decode b_Md_quicker 60 = .ok (.iastore, 1) := by decide +kernel
theorem d_Md_quicker_61 : decode b_Md_quicker 61 = .ok (.aload_n 0, 1) := by decide +kernel
theorem d_Md_quicker_62 : decode b_Md_quicker 62 = .ok (.aload_n 0, 1) := by decide +kernel
theorem d_Md_quicker_63 : decode b_Md_quicker 63 = .ok (.invokevirtual 190, 3) := by decide +kernel
theorem d_Md_quicker_66 : decode b_Md_quicker 66 = .ok (.aload_n 0, 1) := by decide +kernel
theorem d_Md_quicker_67 : decode b_Md_quicker 67 = .ok (.invokevirtual 48, 3) := by decide +kernel
theorem d_Md_quicker_70 : decode b_Md_quicker 70 = .ok (.iconst (-1), 1) := by decide +kernel
theorem d_Md_quicker_71 : decode b_Md_quicker 71 = .ok (.invokevirtual 193, 3) := by decide +kernel
theorem d_Md_quicker_74 : decode b_Md_quicker 74 = .ok (.istore_n 3, 1) := by decide +kernel
theorem d_Md_quicker_75 : decode b_Md_quicker 75 = .ok (.aload_n 0, 1) := by decide +kernel
theorem d_Md_quicker_76 : decode b_Md_quicker 76 = .ok (.getfield 9, 3) := by decide +kernel
theorem d_Md_quicker_79 : decode b_Md_quicker 79 = .ok (.bipush 22, 2) := by decide +kernel
theorem d_Md_quicker_81 : decode b_Md_quicker 81 = .ok (.iload_n 1, 1) := by decide +kernel
theorem d_Md_quicker_82 : decode b_Md_quicker 82 = .ok (.iadd, 1) := by decide +kernel
theorem d_Md_quicker_83 : decode b_Md_quicker 83 = .ok (.dup2, 1) := by decide +kernel
theorem d_Md_quicker_84 : decode b_Md_quicker 84 = .ok (.iaload, 1) := by decide +kernel
theorem d_Md_quicker_85 : decode b_Md_quicker 85 = .ok (.iconst 1, 1) := by decide +kernel
theorem d_Md_quicker_86 : decode b_Md_quicker 86 = .ok (.iadd, 1) := by decide +kernel
theorem d_Md_quicker_87 : decode b_Md_quicker 87 = .ok (.iastore, 1) := by decide +kernel
theorem d_Md_quicker_88 : decode b_Md_quicker 88 = .ok (.iload_n 2, 1) := by decide +kernel
theorem d_Md_quicker_89 : decode b_Md_quicker 89 = .ok (.iload_n 3, 1) := by decide +kernel
theorem d_Md_quicker_90 : decode b_Md_quicker 90 = .ok (.isub, 1) := by decide +kernel
theorem d_Md_quicker_91 : decode b_Md_quicker 91 = .ok (.ireturn, 1) := by decide +kernel
def p_Md_quicker (n : Nat) (v1 : Int32) (I : Nat → Int32) (R : Nat → Nat → Int32) : Option (Int32 × MU) := (p_Md_isPerson n v1 I R).bind fun x2 => (if x2 = 0 then some ((-1), I, R) else if ix (22 + v1) 890 then (if (R 1 (22 + v1).toNatClampNeg) = 1 then some (0, I, R) else (p_Md_now n I R).bind fun x5 => (p_Md_all n I R).bind fun x7 => (p_Md_leastFrom n x5 x7 (-1) I R).bind fun (x11, I9, R10) => (if x11 = 1000000 then some ((-5), I9, R10) else if ix (22 + v1) 890 then if ix (22 + v1) 890 then (p_Md_now n I9 ((upR R10 1 (22 + v1).toNatClampNeg ((R10 1 (22 + v1).toNatClampNeg) - 1)))).bind fun x15 => (p_Md_all n I9 ((upR R10 1 (22 + v1).toNatClampNeg ((R10 1 (22 + v1).toNatClampNeg) - 1)))).bind fun x17 => (p_Md_leastFrom n x15 x17 (-1) I9 ((upR R10 1 (22 + v1).toNatClampNeg ((R10 1 (22 + v1).toNatClampNeg) - 1)))).bind fun (x21, I19, R20) => if ix (22 + v1) 890 then if ix (22 + v1) 890 then some ((x11 - x21), I19, (upR R20 1 (22 + v1).toNatClampNeg ((R20 1 (22 + v1).toNatClampNeg) + 1))) else none else none else none else none)) else none)
set_option maxHeartbeats 4000000 in
theorem c_Md_quicker (l : Launch) (n : Nat) (v1 : Int32) (I : Nat → Int32) (R : Nat → Nat → Int32)  : MMi l y_Md_quicker b_Md_quicker 4 .int (rL 12) (fun ad adK => [.int v1]) I R (p_Md_quicker n v1 I R) := by
  refine en_mi (by decide) rfl (fun _ _ => Nat.le_of_ble_eq_true rfl) ?_
  intro z hf p e s m args below meth c dC dI ad cI cZ A adK adV ls C hA h hr hlk hl
  have hl : lv_has ls 4 [(0, .ref (ad 0)), (1, .int v1)] := hl
  unfold p_Md_quicker at hf
  obtain ⟨hx, hb, hml, hown, hT, -⟩ := id C
  refine lv_aload_n hx hb d_Md_quicker_0 rfl (lv_at hl 0 rfl) ?_
  refine lv_iload_n hx hb d_Md_quicker_1 rfl (lv_at hl 1 rfl) ?_
  obtain ⟨x2, hc1, hf⟩ := op_bind hf
  refine kc_r (rest := []) C h hA (c_Md_isPerson l n v1 I R) hc1 (cbW 1 hT cd_Md_isPerson rfl rfl ini_Md ml_Md_131 hd_Md_isPerson ⟨Nat.le_of_ble_eq_true rfl, Nat.le_of_ble_eq_true rfl⟩) im_Md_isPerson sp_Md_isPerson rfl hl.1 rfl (Nat.le_of_ble_eq_true rfl) d_Md_quicker_2 ⟨Nat.zero_le _, Nat.zero_le _⟩ (fun H locs h => ?_)
  refine lv_if_ne (tgt := 10) hx hb d_Md_quicker_5 (by decide) (fun hc => ?_) (fun hc => ?_)
  · have hf := op_f hc hf
    refine lv_aload_n hx hb d_Md_quicker_10 rfl (lv_at hl 0 rfl) ?_
    refine mg_1 C h d_Md_quicker_11 ?_
    refine lv_bipush (v := 22) hx hb d_Md_quicker_14 (by decide) ?_
    refine lv_iload_n hx hb d_Md_quicker_16 rfl (lv_at hl 1 rfl) ?_
    refine lv_iadd hx hb d_Md_quicker_17 ?_
    obtain ⟨h3, hf⟩ := op_if hf
    refine ma_1 C h rfl h3 d_Md_quicker_18 ?_
    refine lv_iconst (v := 1) hx hb d_Md_quicker_19 (by decide) ?_
    refine lv_icmp_ne (tgt := 25) hx hb d_Md_quicker_20 (by decide) (fun hc => ?_) (fun hc => ?_)
    · have hf := op_f hc hf
      refine lv_aload_n hx hb d_Md_quicker_25 rfl (lv_at hl 0 rfl) ?_
      refine lv_aload_n hx hb d_Md_quicker_26 rfl (lv_at hl 0 rfl) ?_
      obtain ⟨x5, hc4, hf⟩ := op_bind hf
      refine kc_r (rest := [.ref (ad 0)]) C h hA (c_Md_now l n I R) hc4 (cbW 0 hT cd_Md_now rfl rfl ini_Md ml_Md_190 hd_Md_now ⟨Nat.le_of_ble_eq_true rfl, Nat.le_of_ble_eq_true rfl⟩) im_Md_now sp_Md_now rfl hl.1 rfl (Nat.le_of_ble_eq_true rfl) d_Md_quicker_27 ⟨Nat.zero_le _, Nat.zero_le _⟩ (fun H locs h => ?_)
      refine lv_aload_n hx hb d_Md_quicker_30 rfl (lv_at hl 0 rfl) ?_
      obtain ⟨x7, hc6, hf⟩ := op_bind hf
      refine kc_r (rest := [.int x5, .ref (ad 0)]) C h hA (c_Md_all l n I R) hc6 (cbW 0 hT cd_Md_all rfl rfl ini_Md ml_Md_48 hd_Md_all ⟨Nat.le_of_ble_eq_true rfl, Nat.le_of_ble_eq_true rfl⟩) im_Md_all sp_Md_all rfl hl.1 rfl (Nat.le_of_ble_eq_true rfl) d_Md_quicker_31 ⟨Nat.zero_le _, Nat.zero_le _⟩ (fun H locs h => ?_)
      refine lv_iconst (v := (-1)) hx hb d_Md_quicker_34 (by decide) ?_
      obtain ⟨⟨x11, I9, R10⟩, hc8, hf⟩ := op_bind hf
      try dsimp only at hf
      refine kc_i (rest := []) C h hA (c_Md_leastFrom l n x5 x7 (-1) I R) hc8 (cbW 3 hT cd_Md_leastFrom rfl rfl ini_Md ml_Md_193 hd_Md_leastFrom ⟨Nat.le_of_ble_eq_true rfl, Nat.le_of_ble_eq_true rfl⟩) im_Md_leastFrom sp_Md_leastFrom rfl hl.1 rfl (Nat.le_of_ble_eq_true rfl) d_Md_quicker_35 ⟨Nat.zero_le _, Nat.zero_le _⟩ (fun H locs h => ?_)
      refine lv_istore_n (lv' := [(2, .int x11), (0, .ref (ad 0)), (1, .int v1)]) hx hb d_Md_quicker_38 rfl hl (by decide) rfl (fun ls hl => ?_)
      refine lv_iload_n hx hb d_Md_quicker_39 rfl (lv_at hl 0 rfl) ?_
      refine lv_ldc (v := 1000000) hx hb hown (hT _ ko_Md_176) d_Md_quicker_40 ?_
      refine lv_icmp_ne (tgt := 48) hx hb d_Md_quicker_42 (by decide) (fun hc => ?_) (fun hc => ?_)
      · have hf := op_f hc hf
        refine lv_aload_n hx hb d_Md_quicker_48 rfl (lv_at hl 1 rfl) ?_
        refine mg_1 C h d_Md_quicker_49 ?_
        refine lv_bipush (v := 22) hx hb d_Md_quicker_52 (by decide) ?_
        refine lv_iload_n hx hb d_Md_quicker_54 rfl (lv_at hl 2 rfl) ?_
        refine lv_iadd hx hb d_Md_quicker_55 ?_
        refine lv_dup2_11 hx hb d_Md_quicker_56 rfl rfl ?_
        obtain ⟨h12, hf⟩ := op_if hf
        refine ma_1 C h rfl h12 d_Md_quicker_57 ?_
        refine lv_iconst (v := 1) hx hb d_Md_quicker_58 (by decide) ?_
        refine lv_isub hx hb d_Md_quicker_59 ?_
        obtain ⟨h13, hf⟩ := op_if hf
        refine ms_1 C h rfl h13 d_Md_quicker_60 (fun H locs h => ?_)
        refine lv_aload_n hx hb d_Md_quicker_61 rfl (lv_at hl 1 rfl) ?_
        refine lv_aload_n hx hb d_Md_quicker_62 rfl (lv_at hl 1 rfl) ?_
        obtain ⟨x15, hc14, hf⟩ := op_bind hf
        refine kc_r (rest := [.ref (ad 0)]) C h hA (c_Md_now l n I9 ((upR R10 1 (22 + v1).toNatClampNeg ((R10 1 (22 + v1).toNatClampNeg) - 1)))) hc14 (cbW 0 hT cd_Md_now rfl rfl ini_Md ml_Md_190 hd_Md_now ⟨Nat.le_of_ble_eq_true rfl, Nat.le_of_ble_eq_true rfl⟩) im_Md_now sp_Md_now rfl hl.1 rfl (Nat.le_of_ble_eq_true rfl) d_Md_quicker_63 ⟨Nat.zero_le _, Nat.zero_le _⟩ (fun H locs h => ?_)
        refine lv_aload_n hx hb d_Md_quicker_66 rfl (lv_at hl 1 rfl) ?_
        obtain ⟨x17, hc16, hf⟩ := op_bind hf
        refine kc_r (rest := [.int x15, .ref (ad 0)]) C h hA (c_Md_all l n I9 ((upR R10 1 (22 + v1).toNatClampNeg ((R10 1 (22 + v1).toNatClampNeg) - 1)))) hc16 (cbW 0 hT cd_Md_all rfl rfl ini_Md ml_Md_48 hd_Md_all ⟨Nat.le_of_ble_eq_true rfl, Nat.le_of_ble_eq_true rfl⟩) im_Md_all sp_Md_all rfl hl.1 rfl (Nat.le_of_ble_eq_true rfl) d_Md_quicker_67 ⟨Nat.zero_le _, Nat.zero_le _⟩ (fun H locs h => ?_)
        refine lv_iconst (v := (-1)) hx hb d_Md_quicker_70 (by decide) ?_
        obtain ⟨⟨x21, I19, R20⟩, hc18, hf⟩ := op_bind hf
        try dsimp only at hf
        refine kc_i (rest := []) C h hA (c_Md_leastFrom l n x15 x17 (-1) I9 ((upR R10 1 (22 + v1).toNatClampNeg ((R10 1 (22 + v1).toNatClampNeg) - 1)))) hc18 (cbW 3 hT cd_Md_leastFrom rfl rfl ini_Md ml_Md_193 hd_Md_leastFrom ⟨Nat.le_of_ble_eq_true rfl, Nat.le_of_ble_eq_true rfl⟩) im_Md_leastFrom sp_Md_leastFrom rfl hl.1 rfl (Nat.le_of_ble_eq_true rfl) d_Md_quicker_71 ⟨Nat.zero_le _, Nat.zero_le _⟩ (fun H locs h => ?_)
        refine lv_istore_n (lv' := [(3, .int x21), (2, .int x11), (0, .ref (ad 0)), (1, .int v1)]) hx hb d_Md_quicker_74 rfl hl (by decide) rfl (fun ls hl => ?_)
        refine lv_aload_n hx hb d_Md_quicker_75 rfl (lv_at hl 2 rfl) ?_
        refine mg_1 C h d_Md_quicker_76 ?_
        refine lv_bipush (v := 22) hx hb d_Md_quicker_79 (by decide) ?_
        refine lv_iload_n hx hb d_Md_quicker_81 rfl (lv_at hl 3 rfl) ?_
        refine lv_iadd hx hb d_Md_quicker_82 ?_
        refine lv_dup2_11 hx hb d_Md_quicker_83 rfl rfl ?_
        obtain ⟨h22, hf⟩ := op_if hf
        refine ma_1 C h rfl h22 d_Md_quicker_84 ?_
        refine lv_iconst (v := 1) hx hb d_Md_quicker_85 (by decide) ?_
        refine lv_iadd hx hb d_Md_quicker_86 ?_
        obtain ⟨h23, hf⟩ := op_if hf
        refine ms_1 C h rfl h23 d_Md_quicker_87 (fun H locs h => ?_)
        refine lv_iload_n hx hb d_Md_quicker_88 rfl (lv_at hl 1 rfl) ?_
        refine lv_iload_n hx hb d_Md_quicker_89 rfl (lv_at hl 0 rfl) ?_
        refine lv_isub hx hb d_Md_quicker_90 ?_
        exact rt_mi C h hr hlk hf rfl d_Md_quicker_91
      · have hf := op_t hc hf
        refine lv_bipush (v := (-5)) hx hb d_Md_quicker_45 (by decide) ?_
        exact rt_mi C h hr hlk hf rfl d_Md_quicker_47
    · have hf := op_t hc hf
      refine lv_iconst (v := 0) hx hb d_Md_quicker_23 (by decide) ?_
      exact rt_mi C h hr hlk hf rfl d_Md_quicker_24
  · have hf := op_t hc hf
    refine lv_iconst (v := (-1)) hx hb d_Md_quicker_8 (by decide) ?_
    exact rt_mi C h hr hlk hf rfl d_Md_quicker_9
theorem hd_Md_leave : y_Md_leave.cls ≠ "java/lang/invoke/MethodHandle" ∧ y_Md_leave.cls ≠ "java/lang/invoke/VarHandle" ∧ (parseMethodDescriptor y_Md_leave.desc).map (fun d => d.parameters.length) = some 0 := by decide +kernel
theorem d_Md_leave_0 : decode b_Md_leave 0 = .ok (.bipush (-5), 2) := by decide +kernel
theorem d_Md_leave_2 : decode b_Md_leave 2 = .ok (.istore_n 1, 1) := by decide +kernel
theorem d_Md_leave_3 : decode b_Md_leave 3 = .ok (.ldc 176, 2) := by decide +kernel
theorem d_Md_leave_5 : decode b_Md_leave 5 = .ok (.istore_n 2, 1) := by decide +kernel
theorem d_Md_leave_6 : decode b_Md_leave 6 = .ok (.iconst 0, 1) := by decide +kernel
theorem d_Md_leave_7 : decode b_Md_leave 7 = .ok (.istore_n 3, 1) := by decide +kernel
theorem d_Md_leave_8 : decode b_Md_leave 8 = .ok (.iload_n 3, 1) := by decide +kernel
theorem d_Md_leave_9 : decode b_Md_leave 9 = .ok (.aload_n 0, 1) := by decide +kernel
theorem d_Md_leave_10 : decode b_Md_leave 10 = .ok (.getfield 9, 3) := by decide +kernel
theorem d_Md_leave_13 : decode b_Md_leave 13 = .ok (.iconst 0, 1) := by decide +kernel
theorem d_Md_leave_14 : decode b_Md_leave 14 = .ok (.iaload, 1) := by decide +kernel
theorem d_Md_leave_15 : decode b_Md_leave 15 = .ok (.if_icmp .ge 55, 3) := by decide +kernel
theorem d_Md_leave_18 : decode b_Md_leave 18 = .ok (.aload_n 0, 1) := by decide +kernel
theorem d_Md_leave_19 : decode b_Md_leave 19 = .ok (.aload_n 0, 1) := by decide +kernel
theorem d_Md_leave_20 : decode b_Md_leave 20 = .ok (.invokevirtual 190, 3) := by decide +kernel
theorem d_Md_leave_23 : decode b_Md_leave 23 = .ok (.aload_n 0, 1) := by decide +kernel
theorem d_Md_leave_24 : decode b_Md_leave 24 = .ok (.invokevirtual 48, 3) := by decide +kernel
theorem d_Md_leave_27 : decode b_Md_leave 27 = .ok (.iconst 1, 1) := by decide +kernel
theorem d_Md_leave_28 : decode b_Md_leave 28 = .ok (.iload_n 3, 1) := by decide +kernel
theorem d_Md_leave_29 : decode b_Md_leave 29 = .ok (.ishl, 1) := by decide +kernel
theorem d_Md_leave_30 : decode b_Md_leave 30 = .ok (.iconst (-1), 1) := by decide +kernel
theorem d_Md_leave_31 : decode b_Md_leave 31 = .ok (.ixor, 1) := by decide +kernel
theorem d_Md_leave_32 : decode b_Md_leave 32 = .ok (.iand, 1) := by decide +kernel
theorem d_Md_leave_33 : decode b_Md_leave 33 = .ok (.iload_n 3, 1) := by decide +kernel
theorem d_Md_leave_34 : decode b_Md_leave 34 = .ok (.invokevirtual 193, 3) := by decide +kernel
theorem d_Md_leave_37 : decode b_Md_leave 37 = .ok (.istore 4, 2) := by decide +kernel
theorem d_Md_leave_39 : decode b_Md_leave 39 = .ok (.iload 4, 2) := by decide +kernel
theorem d_Md_leave_41 : decode b_Md_leave 41 = .ok (.iload_n 2, 1) := by decide +kernel
theorem d_Md_leave_42 : decode b_Md_leave 42 = .ok (.if_icmp .ge 7, 3) := by decide +kernel
theorem d_Md_leave_45 : decode b_Md_leave 45 = .ok (.iload_n 3, 1) := by decide +kernel
theorem d_Md_leave_46 : decode b_Md_leave 46 = .ok (.goto 4, 3) := by decide +kernel
theorem d_Md_leave_49 : decode b_Md_leave 49 = .ok (.iload_n 1, 1) := by decide +kernel
theorem d_Md_leave_50 : decode b_Md_leave 50 = .ok (.istore_n 1, 1) := by decide +kernel
theorem d_Md_leave_51 : decode b_Md_leave 51 = .ok (.iload 4, 2) := by decide +kernel
theorem d_Md_leave_53 : decode b_Md_leave 53 = .ok (.iload_n 2, 1) := by decide +kernel
theorem d_Md_leave_54 : decode b_Md_leave 54 = .ok (.if_icmp .ge 8, 3) := by decide +kernel
theorem d_Md_leave_57 : decode b_Md_leave 57 = .ok (.iload 4, 2) := by decide +kernel
theorem d_Md_leave_59 : decode b_Md_leave 59 = .ok (.goto 4, 3) := by decide +kernel
theorem d_Md_leave_62 : decode b_Md_leave 62 = .ok (.iload_n 2, 1) := by decide +kernel
theorem d_Md_leave_63 : decode b_Md_leave 63 = .ok (.istore_n 2, 1) := by decide +kernel
theorem d_Md_leave_64 : decode b_Md_leave 64 = .ok (.iinc 3 1, 3) := by decide +kernel
theorem d_Md_leave_67 : decode b_Md_leave 67 = .ok (.goto (-59), 3) := by decide +kernel
theorem d_Md_leave_70 : decode b_Md_leave 70 = .ok (.iload_n 1, 1) := by decide +kernel
theorem d_Md_leave_71 : decode b_Md_leave 71 = .ok (.ireturn, 1) := by decide +kernel
def l_Md_leave_8 (n : Nat)    : Nat → Int32 → Int32 → Int32 → (Nat → Int32) → (Nat → Nat → Int32) → Option (Int32 × (Nat → Int32) × (Nat → Nat → Int32))
  | 0, _, _, _, _, _ => none
  | k + 1, v1, v2, v3, I, R => (if (R 1 0) ≤ v3 then some (v1, I, R) else (p_Md_now n I R).bind fun x2 => (p_Md_all n I R).bind fun x4 => (p_Md_leastFrom n x2 ((x4 &&& ((1 <<< (v3 &&& 31)) ^^^ (-1)))) v3 I R).bind fun (x8, I6, R7) => (if v2 ≤ x8 then some v1 else some v3 : Option (Int32)).bind fun x10 => (if v2 ≤ x8 then some v2 else some x8 : Option (Int32)).bind fun x12 => l_Md_leave_8 n k x10 x12 (v3 + 1) I6 R7)
set_option maxHeartbeats 4000000 in
theorem wl_Md_leave_8 {Q : State → Prop}  {p : Program} {l : Launch} {e : Env} {s : State} {m : MethodId} {args : Array Value} {below : List Frame} {meth : Method} {c : Code} {dC : Nat → ClassId} {dI : Nat → Nat → Nat} {ad : Nat → Nat} {cI cZ : ClassId} {A : Nat → Prop} {adK adV : Nat → Nat} (C : mC p s m args c b_Md_leave 5 dC dI cI cZ A adK adV) (hA : ∀ q, s.heap.size ≤ q → A q) (hr : meth.sig.returnType = some .int) (hlk : meth.locks = false) (n : Nat)    : ∀ (k : Nat) (v1 : Int32) (v2 : Int32) (v3 : Int32) (I : Nat → Int32) (R : Nat → Nat → Int32) (r0 : Int32) (r1 : Nat → Int32) (r2 : Nat → Nat → Int32), l_Md_leave_8 n k v1 v2 v3 I R = some (r0, r1, r2) → (∀ (ls : Array Slot), lv_has ls 5 [(1, .int r0)] → ∀ (H : Heap) (locs : List Loc), mH A s.heap dC dI ad cI cZ r1 r2 H locs → W p l e (rL 12) s m args below meth c H locs 0 0 Q (F0 m 70 ls [])) → ∀ (ls : Array Slot), lv_has ls 5 [(0, .ref (ad 0)), (1, .int v1), (2, .int v2), (3, .int v3)] → ∀ (H : Heap) (locs : List Loc), mH A s.heap dC dI ad cI cZ I R H locs → W p l e (rL 12) s m args below meth c H locs 0 0 Q (F0 m 8 ls []) := by
  obtain ⟨hx, hb, hml, hown, hT, -⟩ := id C
  intro k
  induction k with
  | zero => intro v1 v2 v3 I R r0 r1 r2 hf; exact absurd hf (by unfold l_Md_leave_8; exact fun h9 => by cases h9)
  | succ k ih =>
    intro v1 v2 v3 I R r0 r1 r2 hf K ls hl H locs h
    unfold l_Md_leave_8 at hf
    refine lv_iload_n hx hb d_Md_leave_8 rfl (lv_at hl 3 rfl) ?_
    refine lv_aload_n hx hb d_Md_leave_9 rfl (lv_at hl 0 rfl) ?_
    refine mg_1 C h d_Md_leave_10 ?_
    refine lv_iconst (v := 0) hx hb d_Md_leave_13 (by decide) ?_
    refine ma_1 C h (j := 0) (by decide) (show ix 0 890 by decide) d_Md_leave_14 ?_
    refine lv_icmp_ge (tgt := 70) hx hb d_Md_leave_15 (by decide) (fun hc => ?_) (fun hc => ?_)
    · have hf := op_t hc hf
      obtain ⟨rfl, rfl, rfl⟩ := op_i3 hf
      exact K ls (lv_sub hl [1] rfl) H locs h
    · have hf := op_f hc hf
      refine lv_aload_n hx hb d_Md_leave_18 rfl (lv_at hl 0 rfl) ?_
      refine lv_aload_n hx hb d_Md_leave_19 rfl (lv_at hl 0 rfl) ?_
      obtain ⟨x2, hc1, hf⟩ := op_bind hf
      refine kc_r (rest := [.ref (ad 0)]) C h hA (c_Md_now l n I R) hc1 (cbW 0 hT cd_Md_now rfl rfl ini_Md ml_Md_190 hd_Md_now ⟨Nat.le_of_ble_eq_true rfl, Nat.le_of_ble_eq_true rfl⟩) im_Md_now sp_Md_now rfl hl.1 rfl (Nat.le_of_ble_eq_true rfl) d_Md_leave_20 ⟨Nat.zero_le _, Nat.zero_le _⟩ (fun H locs h => ?_)
      refine lv_aload_n hx hb d_Md_leave_23 rfl (lv_at hl 0 rfl) ?_
      obtain ⟨x4, hc3, hf⟩ := op_bind hf
      refine kc_r (rest := [.int x2, .ref (ad 0)]) C h hA (c_Md_all l n I R) hc3 (cbW 0 hT cd_Md_all rfl rfl ini_Md ml_Md_48 hd_Md_all ⟨Nat.le_of_ble_eq_true rfl, Nat.le_of_ble_eq_true rfl⟩) im_Md_all sp_Md_all rfl hl.1 rfl (Nat.le_of_ble_eq_true rfl) d_Md_leave_24 ⟨Nat.zero_le _, Nat.zero_le _⟩ (fun H locs h => ?_)
      refine lv_iconst (v := 1) hx hb d_Md_leave_27 (by decide) ?_
      refine lv_iload_n hx hb d_Md_leave_28 rfl (lv_at hl 3 rfl) ?_
      refine lv_ishl hx hb d_Md_leave_29 ?_
      refine lv_iconst (v := (-1)) hx hb d_Md_leave_30 (by decide) ?_
      refine lv_ixor hx hb d_Md_leave_31 ?_
      refine lv_iand hx hb d_Md_leave_32 ?_
      refine lv_iload_n hx hb d_Md_leave_33 rfl (lv_at hl 3 rfl) ?_
      obtain ⟨⟨x8, I6, R7⟩, hc5, hf⟩ := op_bind hf
      try dsimp only at hf
      refine kc_i (rest := []) C h hA (c_Md_leastFrom l n x2 ((x4 &&& ((1 <<< (v3 &&& 31)) ^^^ (-1)))) v3 I R) hc5 (cbW 3 hT cd_Md_leastFrom rfl rfl ini_Md ml_Md_193 hd_Md_leastFrom ⟨Nat.le_of_ble_eq_true rfl, Nat.le_of_ble_eq_true rfl⟩) im_Md_leastFrom sp_Md_leastFrom rfl hl.1 rfl (Nat.le_of_ble_eq_true rfl) d_Md_leave_34 ⟨Nat.zero_le _, Nat.zero_le _⟩ (fun H locs h => ?_)
      refine lv_istore (lv' := [(4, .int x8), (0, .ref (ad 0)), (1, .int v1), (2, .int v2), (3, .int v3)]) hx hb d_Md_leave_37 hl (by decide) rfl (fun ls hl => ?_)
      refine lv_iload hx hb d_Md_leave_39 (lv_at hl 0 rfl) ?_
      refine lv_iload_n hx hb d_Md_leave_41 rfl (lv_at hl 3 rfl) ?_
      obtain ⟨x10, he, hf⟩ := op_bind hf
      have K9 : ∀ (ls : Array Slot), lv_has ls 5 [(0, .ref (ad 0)), (2, .int v2), (3, .int v3), (4, .int x8)] → ∀ (H : Heap) (locs : List Loc), mH A s.heap dC dI ad cI cZ I6 R7 H locs → W p l e (rL 12) s m args below meth c H locs 0 0 Q (F0 m 50 ls [.int x10]) := by
        intro ls hl H locs h
        refine lv_istore_n (lv' := [(1, .int x10), (0, .ref (ad 0)), (2, .int v2), (3, .int v3), (4, .int x8)]) hx hb d_Md_leave_50 rfl hl (by decide) rfl (fun ls hl => ?_)
        refine lv_iload hx hb d_Md_leave_51 (lv_at hl 4 rfl) ?_
        refine lv_iload_n hx hb d_Md_leave_53 rfl (lv_at hl 2 rfl) ?_
        obtain ⟨x12, he, hf⟩ := op_bind hf
        have K11 : ∀ (ls : Array Slot), lv_has ls 5 [(0, .ref (ad 0)), (1, .int x10), (3, .int v3)] → ∀ (H : Heap) (locs : List Loc), mH A s.heap dC dI ad cI cZ I6 R7 H locs → W p l e (rL 12) s m args below meth c H locs 0 0 Q (F0 m 63 ls [.int x12]) := by
          intro ls hl H locs h
          refine lv_istore_n (lv' := [(2, .int x12), (0, .ref (ad 0)), (1, .int x10), (3, .int v3)]) hx hb d_Md_leave_63 rfl hl (by decide) rfl (fun ls hl => ?_)
          refine lv_iinc (v := (v3 + 1)) (lv' := [(3, .int (v3 + 1)), (2, .int x12), (0, .ref (ad 0)), (1, .int x10)]) hx hb d_Md_leave_64 hl (k := 3) rfl rfl (by decide) rfl (fun ls hl => ?_)
          refine lv_goto (tgt := 8) hx hb d_Md_leave_67 (by decide) ?_
          exact ih x10 x12 (v3 + 1) I6 R7 _ _ _ hf K ls (lv_sub hl [2, 3, 1, 0] rfl) H locs h
        have hf := he
        refine lv_icmp_ge (tgt := 62) hx hb d_Md_leave_54 (by decide) (fun hc => ?_) (fun hc => ?_)
        · have hf := op_t hc hf
          refine lv_iload_n hx hb d_Md_leave_62 rfl (lv_at hl 2 rfl) ?_
          obtain rfl := op_i1 hf
          exact K11 ls (lv_sub hl [1, 0, 3] rfl) H locs h
        · have hf := op_f hc hf
          refine lv_iload hx hb d_Md_leave_57 (lv_at hl 4 rfl) ?_
          refine lv_goto (tgt := 63) hx hb d_Md_leave_59 (by decide) ?_
          obtain rfl := op_i1 hf
          exact K11 ls (lv_sub hl [1, 0, 3] rfl) H locs h
      have hf := he
      refine lv_icmp_ge (tgt := 49) hx hb d_Md_leave_42 (by decide) (fun hc => ?_) (fun hc => ?_)
      · have hf := op_t hc hf
        refine lv_iload_n hx hb d_Md_leave_49 rfl (lv_at hl 2 rfl) ?_
        obtain rfl := op_i1 hf
        exact K9 ls (lv_sub hl [1, 3, 4, 0] rfl) H locs h
      · have hf := op_f hc hf
        refine lv_iload_n hx hb d_Md_leave_45 rfl (lv_at hl 4 rfl) ?_
        refine lv_goto (tgt := 50) hx hb d_Md_leave_46 (by decide) ?_
        obtain rfl := op_i1 hf
        exact K9 ls (lv_sub hl [1, 3, 4, 0] rfl) H locs h
def p_Md_leave (n : Nat)  (I : Nat → Int32) (R : Nat → Nat → Int32) : Option (Int32 × MU) := (l_Md_leave_8 n n (-5) 1000000 0 I R).bind fun (y13, I14, R15) => some (y13, I14, R15)
set_option maxHeartbeats 4000000 in
theorem c_Md_leave (l : Launch) (n : Nat)  (I : Nat → Int32) (R : Nat → Nat → Int32)  : MMi l y_Md_leave b_Md_leave 5 .int (rL 12) (fun ad adK => []) I R (p_Md_leave n I R) := by
  refine en_mi (by decide) rfl (fun _ _ => Nat.le_of_ble_eq_true rfl) ?_
  intro z hf p e s m args below meth c dC dI ad cI cZ A adK adV ls C hA h hr hlk hl
  have hl : lv_has ls 5 [(0, .ref (ad 0))] := hl
  unfold p_Md_leave at hf
  obtain ⟨hx, hb, hml, hown, hT, -⟩ := id C
  refine lv_bipush (v := (-5)) hx hb d_Md_leave_0 (by decide) ?_
  refine lv_istore_n (lv' := [(1, .int (-5)), (0, .ref (ad 0))]) hx hb d_Md_leave_2 rfl hl (by decide) rfl (fun ls hl => ?_)
  refine lv_ldc (v := 1000000) hx hb hown (hT _ ko_Md_176) d_Md_leave_3 ?_
  refine lv_istore_n (lv' := [(2, .int 1000000), (1, .int (-5)), (0, .ref (ad 0))]) hx hb d_Md_leave_5 rfl hl (by decide) rfl (fun ls hl => ?_)
  refine lv_iconst (v := 0) hx hb d_Md_leave_6 (by decide) ?_
  refine lv_istore_n (lv' := [(3, .int 0), (2, .int 1000000), (1, .int (-5)), (0, .ref (ad 0))]) hx hb d_Md_leave_7 rfl hl (by decide) rfl (fun ls hl => ?_)
  obtain ⟨⟨y13, I14, R15⟩, he, hf⟩ := op_bind hf
  try dsimp only at hf
  refine wl_Md_leave_8 C hA hr hlk n  n (-5) 1000000 0 I R _ _ _ he (fun ls hl H locs h => ?_) ls (lv_sub hl [3, 2, 1, 0] rfl) s.heap [] h
  refine lv_iload_n hx hb d_Md_leave_70 rfl (lv_at hl 0 rfl) ?_
  exact rt_mi C h hr hlk hf rfl d_Md_leave_71
theorem hd_Md_rule : y_Md_rule.cls ≠ "java/lang/invoke/MethodHandle" ∧ y_Md_rule.cls ≠ "java/lang/invoke/VarHandle" ∧ (parseMethodDescriptor y_Md_rule.desc).map (fun d => d.parameters.length) = some 2 := by decide +kernel
theorem d_Md_rule_0 : decode b_Md_rule 0 = .ok (.iload_n 1, 1) := by decide +kernel
theorem d_Md_rule_1 : decode b_Md_rule 1 = .ok (.iconst 0, 1) := by decide +kernel
theorem d_Md_rule_2 : decode b_Md_rule 2 = .ok (.iconst 3, 1) := by decide +kernel
theorem d_Md_rule_3 : decode b_Md_rule 3 = .ok (.invokestatic 44, 3) := by decide +kernel
theorem d_Md_rule_6 : decode b_Md_rule 6 = .ok (.ifCond .eq 12, 3) := by decide +kernel
theorem d_Md_rule_9 : decode b_Md_rule 9 = .ok (.iload_n 2, 1) := by decide +kernel
theorem d_Md_rule_10 : decode b_Md_rule 10 = .ok (.iconst 0, 1) := by decide +kernel
theorem d_Md_rule_11 : decode b_Md_rule 11 = .ok (.iconst 2, 1) := by decide +kernel
theorem d_Md_rule_12 : decode b_Md_rule 12 = .ok (.invokestatic 44, 3) := by decide +kernel
theorem d_Md_rule_15 : decode b_Md_rule 15 = .ok (.ifCond .ne 5, 3) := by decide +kernel
theorem d_Md_rule_18 : decode b_Md_rule 18 = .ok (.iconst (-1), 1) := by decide +kernel
theorem d_Md_rule_19 : decode b_Md_rule 19 = .ok (.ireturn, 1) := by decide +kernel
theorem d_Md_rule_20 : decode b_Md_rule 20 = .ok (.iload_n 1, 1) := by decide +kernel
theorem d_Md_rule_21 : decode b_Md_rule 21 = .ok (.iconst 3, 1) := by decide +kernel
theorem d_Md_rule_22 : decode b_Md_rule 22 = .ok (.if_icmp .ne 10, 3) := by decide +kernel
theorem d_Md_rule_25 : decode b_Md_rule 25 = .ok (.aload_n 0, 1) := by decide +kernel
theorem d_Md_rule_26 : decode b_Md_rule 26 = .ok (.invokevirtual 227, 3) := by decide +kernel
theorem d_Md_rule_29 : decode b_Md_rule 29 = .ok (.goto 4, 3) := by decide +kernel
theorem d_Md_rule_32 : decode b_Md_rule 32 = .ok (.iload_n 1, 1) := by decide +kernel
theorem d_Md_rule_33 : decode b_Md_rule 33 = .ok (.istore_n 3, 1) := by decide +kernel
theorem d_Md_rule_34 : decode b_Md_rule 34 = .ok (.iload_n 3, 1) := by decide +kernel
theorem d_Md_rule_35 : decode b_Md_rule 35 = .ok (.iconst (-1), 1) := by decide +kernel
theorem d_Md_rule_36 : decode b_Md_rule 36 = .ok (.if_icmp .eq 11, 3) := by decide +kernel
theorem d_Md_rule_39 : decode b_Md_rule 39 = .ok (.aload_n 0, 1) := by decide +kernel
theorem d_Md_rule_40 : decode b_Md_rule 40 = .ok (.iload_n 3, 1) := by decide +kernel
theorem d_Md_rule_41 : decode b_Md_rule 41 = .ok (.invokevirtual 224, 3) := by decide +kernel
theorem d_Md_rule_44 : decode b_Md_rule 44 = .ok (.ifCond .ne 6, 3) := by decide +kernel
theorem d_Md_rule_47 : decode b_Md_rule 47 = .ok (.bipush (-5), 2) := by decide +kernel
theorem d_Md_rule_49 : decode b_Md_rule 49 = .ok (.ireturn, 1) := by decide +kernel
theorem d_Md_rule_50 : decode b_Md_rule 50 = .ok (.iload_n 2, 1) := by decide +kernel
theorem d_Md_rule_51 : decode b_Md_rule 51 = .ok (.iconst 2, 1) := by decide +kernel
theorem d_Md_rule_52 : decode b_Md_rule 52 = .ok (.if_icmp .ge 19, 3) := by decide +kernel
theorem d_Md_rule_55 : decode b_Md_rule 55 = .ok (.iload_n 2, 1) := by decide +kernel
theorem d_Md_rule_56 : decode b_Md_rule 56 = .ok (.ifCond .ne 10, 3) := by decide +kernel
theorem d_Md_rule_59 : decode b_Md_rule 59 = .ok (.aload_n 0, 1) := by decide +kernel
theorem d_Md_rule_60 : decode b_Md_rule 60 = .ok (.getfield 215, 3) := by decide +kernel
theorem d_Md_rule_63 : decode b_Md_rule 63 = .ok (.goto 7, 3) := by decide +kernel
theorem d_Md_rule_66 : decode b_Md_rule 66 = .ok (.aload_n 0, 1) := by decide +kernel
theorem d_Md_rule_67 : decode b_Md_rule 67 = .ok (.getfield 218, 3) := by decide +kernel
theorem d_Md_rule_70 : decode b_Md_rule 70 = .ok (.ireturn, 1) := by decide +kernel
theorem d_Md_rule_71 : decode b_Md_rule 71 = .ok (.aload_n 0, 1) := by decide +kernel
theorem d_Md_rule_72 : decode b_Md_rule 72 = .ok (.aload_n 0, 1) := by decide +kernel
theorem d_Md_rule_73 : decode b_Md_rule 73 = .ok (.invokevirtual 190, 3) := by decide +kernel
theorem d_Md_rule_76 : decode b_Md_rule 76 = .ok (.aload_n 0, 1) := by decide +kernel
theorem d_Md_rule_77 : decode b_Md_rule 77 = .ok (.invokevirtual 48, 3) := by decide +kernel
theorem d_Md_rule_80 : decode b_Md_rule 80 = .ok (.iconst (-1), 1) := by decide +kernel
theorem d_Md_rule_81 : decode b_Md_rule 81 = .ok (.invokevirtual 193, 3) := by decide +kernel
theorem d_Md_rule_84 : decode b_Md_rule 84 = .ok (.istore 4, 2) := by decide +kernel
theorem d_Md_rule_86 : decode b_Md_rule 86 = .ok (.iload 4, 2) := by decide +kernel
theorem d_Md_rule_88 : decode b_Md_rule 88 = .ok (.ldc 176, 2) := by decide +kernel
theorem d_Md_rule_90 : decode b_Md_rule 90 = .ok (.if_icmp .ne 8, 3) := by decide +kernel
theorem d_Md_rule_93 : decode b_Md_rule 93 = .ok (.bipush (-5), 2) := by decide +kernel
theorem d_Md_rule_95 : decode b_Md_rule 95 = .ok (.goto 10, 3) := by decide +kernel
theorem d_Md_rule_98 : decode b_Md_rule 98 = .ok (.aload_n 0, 1) := by decide +kernel
theorem d_Md_rule_99 : decode b_Md_rule 99 = .ok (.getfield 215, 3) := by decide +kernel
theorem d_Md_rule_102 : decode b_Md_rule 102 = .ok (.iload 4, 2) := by decide +kernel
theorem d_Md_rule_104 : decode b_Md_rule 104 = .ok (.isub, 1) := by decide +kernel
theorem d_Md_rule_105 : decode b_Md_rule 105 = .ok (.ireturn, 1) := by decide +kernel
def p_Md_rule (n : Nat) (v1 : Int32) (v2 : Int32) (I : Nat → Int32) (R : Nat → Nat → Int32) : Option (Int32 × MU) := (p_Md_in n v1 0 3).bind fun x2 => (if x2 = 0 then some ((-1), I, R) else (p_Md_in n v2 0 2).bind fun x4 => (if x4 = 0 then some ((-1), I, R) else (if v1 = 3 then (p_Md_bestRule n I R).bind fun (x12, I10, R11) => some (x12, I10, R11) else some (v1, I, R) : Option (Int32 × (Nat → Int32) × (Nat → Nat → Int32))).bind fun (x6, I7, R8) => (if x6 = (-1) then some ((-5), I7, R8) else (p_Md_goesByRule n x6 I7 R8).bind fun (x16, I14, R15) => (if x16 = 0 then some ((-5), I14, R15) else (if 2 ≤ v2 then (p_Md_now n I14 R15).bind fun x18 => (p_Md_all n I14 R15).bind fun x20 => (p_Md_leastFrom n x18 x20 (-1) I14 R15).bind fun (x24, I22, R23) => (if x24 = 1000000 then some (-5) else some ((I22 17) - x24) : Option (Int32)).bind fun x26 => some (x26, I22, R23) else (if v2 = 0 then some (I14 17) else some (I14 18) : Option (Int32)).bind fun x28 => some (x28, I14, R15))))))
set_option maxHeartbeats 4000000 in
theorem c_Md_rule (l : Launch) (n : Nat) (v1 : Int32) (v2 : Int32) (I : Nat → Int32) (R : Nat → Nat → Int32)  : MMi l y_Md_rule b_Md_rule 5 .int (rL 12) (fun ad adK => [.int v1, .int v2]) I R (p_Md_rule n v1 v2 I R) := by
  refine en_mi (by decide) rfl (fun _ _ => Nat.le_of_ble_eq_true rfl) ?_
  intro z hf p e s m args below meth c dC dI ad cI cZ A adK adV ls C hA h hr hlk hl
  have hl : lv_has ls 5 [(0, .ref (ad 0)), (1, .int v1), (2, .int v2)] := hl
  unfold p_Md_rule at hf
  obtain ⟨hx, hb, hml, hown, hT, -⟩ := id C
  refine lv_iload_n hx hb d_Md_rule_0 rfl (lv_at hl 1 rfl) ?_
  refine lv_iconst (v := 0) hx hb d_Md_rule_1 (by decide) ?_
  refine lv_iconst (v := 3) hx hb d_Md_rule_2 (by decide) ?_
  obtain ⟨x2, hc1, hf⟩ := op_bind hf
  refine ks_i (rest := []) hx hb hml hown hT (c_Md_in l n v1 0 3 _ hc1) (cbW 3 hT cd_Md_in rfl rfl ini_Md ml_Md_44 hd_Md_in ⟨Nat.le_of_ble_eq_true rfl, Nat.le_of_ble_eq_true rfl⟩) sm_Md_in rfl hl.1 rfl (Nat.le_of_ble_eq_true rfl) d_Md_rule_3 ⟨Nat.zero_le _, Nat.zero_le _⟩ ?_
  refine lv_if_eq (tgt := 18) hx hb d_Md_rule_6 (by decide) (fun hc => ?_) (fun hc => ?_)
  · have hf := op_t hc hf
    refine lv_iconst (v := (-1)) hx hb d_Md_rule_18 (by decide) ?_
    exact rt_mi C h hr hlk hf rfl d_Md_rule_19
  · have hf := op_f hc hf
    refine lv_iload_n hx hb d_Md_rule_9 rfl (lv_at hl 2 rfl) ?_
    refine lv_iconst (v := 0) hx hb d_Md_rule_10 (by decide) ?_
    refine lv_iconst (v := 2) hx hb d_Md_rule_11 (by decide) ?_
    obtain ⟨x4, hc3, hf⟩ := op_bind hf
    refine ks_i (rest := []) hx hb hml hown hT (c_Md_in l n v2 0 2 _ hc3) (cbW 3 hT cd_Md_in rfl rfl ini_Md ml_Md_44 hd_Md_in ⟨Nat.le_of_ble_eq_true rfl, Nat.le_of_ble_eq_true rfl⟩) sm_Md_in rfl hl.1 rfl (Nat.le_of_ble_eq_true rfl) d_Md_rule_12 ⟨Nat.zero_le _, Nat.zero_le _⟩ ?_
    refine lv_if_ne (tgt := 20) hx hb d_Md_rule_15 (by decide) (fun hc => ?_) (fun hc => ?_)
    · have hf := op_f hc hf
      refine lv_iload_n hx hb d_Md_rule_20 rfl (lv_at hl 1 rfl) ?_
      refine lv_iconst (v := 3) hx hb d_Md_rule_21 (by decide) ?_
      obtain ⟨⟨x6, I7, R8⟩, he, hf⟩ := op_bind hf
      try dsimp only at hf
      have K5 : ∀ (ls : Array Slot), lv_has ls 5 [(0, .ref (ad 0)), (2, .int v2)] → ∀ (H : Heap) (locs : List Loc), mH A s.heap dC dI ad cI cZ I7 R8 H locs → W p l e (rL 12) s m args below meth c H locs 0 0 (mQi dC dI ad cI cZ A below args s z) (F0 m 33 ls [.int x6]) := by
        intro ls hl H locs h
        refine lv_istore_n (lv' := [(3, .int x6), (0, .ref (ad 0)), (2, .int v2)]) hx hb d_Md_rule_33 rfl hl (by decide) rfl (fun ls hl => ?_)
        refine lv_iload_n hx hb d_Md_rule_34 rfl (lv_at hl 0 rfl) ?_
        refine lv_iconst (v := (-1)) hx hb d_Md_rule_35 (by decide) ?_
        refine lv_icmp_eq (tgt := 47) hx hb d_Md_rule_36 (by decide) (fun hc => ?_) (fun hc => ?_)
        · have hf := op_t hc hf
          refine lv_bipush (v := (-5)) hx hb d_Md_rule_47 (by decide) ?_
          exact rt_mi C h hr hlk hf rfl d_Md_rule_49
        · have hf := op_f hc hf
          refine lv_aload_n hx hb d_Md_rule_39 rfl (lv_at hl 1 rfl) ?_
          refine lv_iload_n hx hb d_Md_rule_40 rfl (lv_at hl 0 rfl) ?_
          obtain ⟨⟨x16, I14, R15⟩, hc13, hf⟩ := op_bind hf
          try dsimp only at hf
          refine kc_i (rest := []) C h hA (c_Md_goesByRule l n x6 I7 R8) hc13 (cbW 1 hT cd_Md_goesByRule rfl rfl ini_Md ml_Md_224 hd_Md_goesByRule ⟨Nat.le_of_ble_eq_true rfl, Nat.le_of_ble_eq_true rfl⟩) im_Md_goesByRule sp_Md_goesByRule rfl hl.1 rfl (Nat.le_of_ble_eq_true rfl) d_Md_rule_41 ⟨Nat.zero_le _, Nat.zero_le _⟩ (fun H locs h => ?_)
          refine lv_if_ne (tgt := 50) hx hb d_Md_rule_44 (by decide) (fun hc => ?_) (fun hc => ?_)
          · have hf := op_f hc hf
            refine lv_iload_n hx hb d_Md_rule_50 rfl (lv_at hl 2 rfl) ?_
            refine lv_iconst (v := 2) hx hb d_Md_rule_51 (by decide) ?_
            refine lv_icmp_ge (tgt := 71) hx hb d_Md_rule_52 (by decide) (fun hc => ?_) (fun hc => ?_)
            · have hf := op_t hc hf
              refine lv_aload_n hx hb d_Md_rule_71 rfl (lv_at hl 1 rfl) ?_
              refine lv_aload_n hx hb d_Md_rule_72 rfl (lv_at hl 1 rfl) ?_
              obtain ⟨x18, hc17, hf⟩ := op_bind hf
              refine kc_r (rest := [.ref (ad 0)]) C h hA (c_Md_now l n I14 R15) hc17 (cbW 0 hT cd_Md_now rfl rfl ini_Md ml_Md_190 hd_Md_now ⟨Nat.le_of_ble_eq_true rfl, Nat.le_of_ble_eq_true rfl⟩) im_Md_now sp_Md_now rfl hl.1 rfl (Nat.le_of_ble_eq_true rfl) d_Md_rule_73 ⟨Nat.zero_le _, Nat.zero_le _⟩ (fun H locs h => ?_)
              refine lv_aload_n hx hb d_Md_rule_76 rfl (lv_at hl 1 rfl) ?_
              obtain ⟨x20, hc19, hf⟩ := op_bind hf
              refine kc_r (rest := [.int x18, .ref (ad 0)]) C h hA (c_Md_all l n I14 R15) hc19 (cbW 0 hT cd_Md_all rfl rfl ini_Md ml_Md_48 hd_Md_all ⟨Nat.le_of_ble_eq_true rfl, Nat.le_of_ble_eq_true rfl⟩) im_Md_all sp_Md_all rfl hl.1 rfl (Nat.le_of_ble_eq_true rfl) d_Md_rule_77 ⟨Nat.zero_le _, Nat.zero_le _⟩ (fun H locs h => ?_)
              refine lv_iconst (v := (-1)) hx hb d_Md_rule_80 (by decide) ?_
              obtain ⟨⟨x24, I22, R23⟩, hc21, hf⟩ := op_bind hf
              try dsimp only at hf
              refine kc_i (rest := []) C h hA (c_Md_leastFrom l n x18 x20 (-1) I14 R15) hc21 (cbW 3 hT cd_Md_leastFrom rfl rfl ini_Md ml_Md_193 hd_Md_leastFrom ⟨Nat.le_of_ble_eq_true rfl, Nat.le_of_ble_eq_true rfl⟩) im_Md_leastFrom sp_Md_leastFrom rfl hl.1 rfl (Nat.le_of_ble_eq_true rfl) d_Md_rule_81 ⟨Nat.zero_le _, Nat.zero_le _⟩ (fun H locs h => ?_)
              refine lv_istore (lv' := [(4, .int x24), (3, .int x6), (0, .ref (ad 0)), (2, .int v2)]) hx hb d_Md_rule_84 hl (by decide) rfl (fun ls hl => ?_)
              refine lv_iload hx hb d_Md_rule_86 (lv_at hl 0 rfl) ?_
              refine lv_ldc (v := 1000000) hx hb hown (hT _ ko_Md_176) d_Md_rule_88 ?_
              obtain ⟨x26, he, hf⟩ := op_bind hf
              have K25 : ∀ (ls : Array Slot), lv_has ls 5 [] → ∀ (H : Heap) (locs : List Loc), mH A s.heap dC dI ad cI cZ I22 R23 H locs → W p l e (rL 12) s m args below meth c H locs 0 0 (mQi dC dI ad cI cZ A below args s z) (F0 m 105 ls [.int x26]) := by
                intro ls hl H locs h
                exact rt_mi C h hr hlk hf rfl d_Md_rule_105
              have hf := he
              refine lv_icmp_ne (tgt := 98) hx hb d_Md_rule_90 (by decide) (fun hc => ?_) (fun hc => ?_)
              · have hf := op_f hc hf
                refine lv_aload_n hx hb d_Md_rule_98 rfl (lv_at hl 2 rfl) ?_
                refine mg_17 C h d_Md_rule_99 ?_
                refine lv_iload hx hb d_Md_rule_102 (lv_at hl 0 rfl) ?_
                refine lv_isub hx hb d_Md_rule_104 ?_
                obtain rfl := op_i1 hf
                exact K25 ls (lv_sub hl [] rfl) H locs h
              · have hf := op_t hc hf
                refine lv_bipush (v := (-5)) hx hb d_Md_rule_93 (by decide) ?_
                refine lv_goto (tgt := 105) hx hb d_Md_rule_95 (by decide) ?_
                obtain rfl := op_i1 hf
                exact K25 ls (lv_sub hl [] rfl) H locs h
            · have hf := op_f hc hf
              refine lv_iload_n hx hb d_Md_rule_55 rfl (lv_at hl 2 rfl) ?_
              obtain ⟨x28, he, hf⟩ := op_bind hf
              have K27 : ∀ (ls : Array Slot), lv_has ls 5 [] → ∀ (H : Heap) (locs : List Loc), mH A s.heap dC dI ad cI cZ I14 R15 H locs → W p l e (rL 12) s m args below meth c H locs 0 0 (mQi dC dI ad cI cZ A below args s z) (F0 m 70 ls [.int x28]) := by
                intro ls hl H locs h
                exact rt_mi C h hr hlk hf rfl d_Md_rule_70
              have hf := he
              refine lv_if_ne (tgt := 66) hx hb d_Md_rule_56 (by decide) (fun hc => ?_) (fun hc => ?_)
              · have hf := op_f hc hf
                refine lv_aload_n hx hb d_Md_rule_66 rfl (lv_at hl 1 rfl) ?_
                refine mg_18 C h d_Md_rule_67 ?_
                obtain rfl := op_i1 hf
                exact K27 ls (lv_sub hl [] rfl) H locs h
              · have hf := op_t hc hf
                refine lv_aload_n hx hb d_Md_rule_59 rfl (lv_at hl 1 rfl) ?_
                refine mg_17 C h d_Md_rule_60 ?_
                refine lv_goto (tgt := 70) hx hb d_Md_rule_63 (by decide) ?_
                obtain rfl := op_i1 hf
                exact K27 ls (lv_sub hl [] rfl) H locs h
          · have hf := op_t hc hf
            refine lv_bipush (v := (-5)) hx hb d_Md_rule_47 (by decide) ?_
            exact rt_mi C h hr hlk hf rfl d_Md_rule_49
      have hf := he
      refine lv_icmp_ne (tgt := 32) hx hb d_Md_rule_22 (by decide) (fun hc => ?_) (fun hc => ?_)
      · have hf := op_f hc hf
        refine lv_iload_n hx hb d_Md_rule_32 rfl (lv_at hl 1 rfl) ?_
        obtain ⟨rfl, rfl, rfl⟩ := op_i3 hf
        exact K5 ls (lv_sub hl [0, 2] rfl) s.heap [] h
      · have hf := op_t hc hf
        refine lv_aload_n hx hb d_Md_rule_25 rfl (lv_at hl 0 rfl) ?_
        obtain ⟨⟨x12, I10, R11⟩, hc9, hf⟩ := op_bind hf
        try dsimp only at hf
        refine kc_i (rest := []) C h hA (c_Md_bestRule l n I R) hc9 (cbW 0 hT cd_Md_bestRule rfl rfl ini_Md ml_Md_227 hd_Md_bestRule ⟨Nat.le_of_ble_eq_true rfl, Nat.le_of_ble_eq_true rfl⟩) im_Md_bestRule sp_Md_bestRule rfl hl.1 rfl (Nat.le_of_ble_eq_true rfl) d_Md_rule_26 ⟨Nat.zero_le _, Nat.zero_le _⟩ (fun H locs h => ?_)
        refine lv_goto (tgt := 33) hx hb d_Md_rule_29 (by decide) ?_
        obtain ⟨rfl, rfl, rfl⟩ := op_i3 hf
        exact K5 ls (lv_sub hl [0, 2] rfl) H locs h
    · have hf := op_t hc hf
      refine lv_iconst (v := (-1)) hx hb d_Md_rule_18 (by decide) ?_
      exact rt_mi C h hr hlk hf rfl d_Md_rule_19
theorem hd_Md_act : y_Md_act.cls ≠ "java/lang/invoke/MethodHandle" ∧ y_Md_act.cls ≠ "java/lang/invoke/VarHandle" ∧ (parseMethodDescriptor y_Md_act.desc).map (fun d => d.parameters.length) = some 3 := by decide +kernel
theorem d_Md_act_0 : decode b_Md_act 0 = .ok (.aload_n 0, 1) := by decide +kernel
theorem d_Md_act_1 : decode b_Md_act 1 = .ok (.iconst 0, 1) := by decide +kernel
theorem d_Md_act_2 : decode b_Md_act 2 = .ok (.putfield 244, 3) := by decide +kernel
theorem d_Md_act_5 : decode b_Md_act 5 = .ok (.aload_n 0, 1) := by decide +kernel
theorem d_Md_act_6 : decode b_Md_act 6 = .ok (.iload_n 1, 1) := by decide +kernel
theorem d_Md_act_7 : decode b_Md_act 7 = .ok (.invokevirtual 131, 3) := by decide +kernel
theorem d_Md_act_10 : decode b_Md_act 10 = .ok (.ifCond .eq 12, 3) := by decide +kernel
theorem d_Md_act_13 : decode b_Md_act 13 = .ok (.iload_n 2, 1) := by decide +kernel
theorem d_Md_act_14 : decode b_Md_act 14 = .ok (.iconst 0, 1) := by decide +kernel
theorem d_Md_act_15 : decode b_Md_act 15 = .ok (.iconst 2, 1) := by decide +kernel
theorem d_Md_act_16 : decode b_Md_act 16 = .ok (.invokestatic 44, 3) := by decide +kernel
theorem d_Md_act_19 : decode b_Md_act 19 = .ok (.ifCond .ne 5, 3) := by decide +kernel
theorem d_Md_act_22 : decode b_Md_act 22 = .ok (.iconst 0, 1) := by decide +kernel
theorem d_Md_act_23 : decode b_Md_act 23 = .ok (.ireturn, 1) := by decide +kernel
theorem d_Md_act_24 : decode b_Md_act 24 = .ok (.aload_n 0, 1) := by decide +kernel
theorem d_Md_act_25 : decode b_Md_act 25 = .ok (.aload_n 0, 1) := by decide +kernel
theorem d_Md_act_26 : decode b_Md_act 26 = .ok (.getfield 9, 3) := by decide +kernel
theorem d_Md_act_29 : decode b_Md_act 29 = .ok (.bipush 10, 2) := by decide +kernel
theorem d_Md_act_31 : decode b_Md_act 31 = .ok (.iload_n 1, 1) := by decide +kernel
theorem d_Md_act_32 : decode b_Md_act 32 = .ok (.iadd, 1) := by decide +kernel
theorem d_Md_act_33 : decode b_Md_act 33 = .ok (.iaload, 1) := by decide +kernel
theorem d_Md_act_34 : decode b_Md_act 34 = .ok (.putfield 253, 3) := by decide +kernel
theorem d_Md_act_37 : decode b_Md_act 37 = .ok (.aload_n 0, 1) := by decide +kernel
theorem d_Md_act_38 : decode b_Md_act 38 = .ok (.iload_n 1, 1) := by decide +kernel
theorem d_Md_act_39 : decode b_Md_act 39 = .ok (.putfield 250, 3) := by decide +kernel
theorem d_Md_act_42 : decode b_Md_act 42 = .ok (.aload_n 0, 1) := by decide +kernel
theorem d_Md_act_43 : decode b_Md_act 43 = .ok (.aload_n 0, 1) := by decide +kernel
theorem d_Md_act_44 : decode b_Md_act 44 = .ok (.getfield 9, 3) := by decide +kernel
theorem d_Md_act_47 : decode b_Md_act 47 = .ok (.bipush 16, 2) := by decide +kernel
theorem d_Md_act_49 : decode b_Md_act 49 = .ok (.iload_n 1, 1) := by decide +kernel
theorem d_Md_act_50 : decode b_Md_act 50 = .ok (.iadd, 1) := by decide +kernel
theorem d_Md_act_51 : decode b_Md_act 51 = .ok (.iaload, 1) := by decide +kernel
theorem d_Md_act_52 : decode b_Md_act 52 = .ok (.putfield 265, 3) := by decide +kernel
theorem d_Md_act_55 : decode b_Md_act 55 = .ok (.iload_n 2, 1) := by decide +kernel
theorem d_Md_act_56 : decode b_Md_act 56 = .ok (.ifCond .ne 11, 3) := by decide +kernel
theorem d_Md_act_59 : decode b_Md_act 59 = .ok (.aload_n 0, 1) := by decide +kernel
theorem d_Md_act_60 : decode b_Md_act 60 = .ok (.iload_n 3, 1) := by decide +kernel
theorem d_Md_act_61 : decode b_Md_act 61 = .ok (.invokevirtual 262, 3) := by decide +kernel
theorem d_Md_act_64 : decode b_Md_act 64 = .ok (.goto 21, 3) := by decide +kernel
theorem d_Md_act_67 : decode b_Md_act 67 = .ok (.iload_n 2, 1) := by decide +kernel
theorem d_Md_act_68 : decode b_Md_act 68 = .ok (.iconst 1, 1) := by decide +kernel
theorem d_Md_act_69 : decode b_Md_act 69 = .ok (.if_icmp .ne 11, 3) := by decide +kernel
theorem d_Md_act_72 : decode b_Md_act 72 = .ok (.aload_n 0, 1) := by decide +kernel
theorem d_Md_act_73 : decode b_Md_act 73 = .ok (.iload_n 3, 1) := by decide +kernel
theorem d_Md_act_74 : decode b_Md_act 74 = .ok (.invokevirtual 271, 3) := by decide +kernel
theorem d_Md_act_77 : decode b_Md_act 77 = .ok (.goto 8, 3) := by decide +kernel
theorem d_Md_act_80 : decode b_Md_act 80 = .ok (.aload_n 0, 1) := by decide +kernel
theorem d_Md_act_81 : decode b_Md_act 81 = .ok (.iload_n 3, 1) := by decide +kernel
theorem d_Md_act_82 : decode b_Md_act 82 = .ok (.invokevirtual 277, 3) := by decide +kernel
theorem d_Md_act_85 : decode b_Md_act 85 = .ok (.ireturn, 1) := by decide +kernel
def p_Md_act (n : Nat) (v1 : Int32) (v2 : Int32) (v3 : Int32) (I : Nat → Int32) (R : Nat → Nat → Int32) : Option (Int32 × MU) := (p_Md_isPerson n v1 (upd I 20 0) R).bind fun x2 => (if x2 = 0 then some (0, (upd I 20 0), R) else (p_Md_in n v2 0 2).bind fun x4 => (if x4 = 0 then some (0, (upd I 20 0), R) else if ix (10 + v1) 890 then if ix (16 + v1) 890 then (if v2 = 0 then (p_Md_goesActs n v3 ((upd (upd (upd (upd I 20 0) 21 (R 1 (10 + v1).toNatClampNeg)) 22 v1) 23 (R 1 (16 + v1).toNatClampNeg))) R).bind fun (x22, I20, R21) => some (x22, I20, R21) else (if v2 = 1 then (p_Md_waitsActs n v3 ((upd (upd (upd (upd I 20 0) 21 (R 1 (10 + v1).toNatClampNeg)) 22 v1) 23 (R 1 (16 + v1).toNatClampNeg))) R).bind fun (x18, I16, R17) => some (x18, I16, R17) else (p_Md_tellsActs n v3 ((upd (upd (upd (upd I 20 0) 21 (R 1 (10 + v1).toNatClampNeg)) 22 v1) 23 (R 1 (16 + v1).toNatClampNeg))) R).bind fun (x14, I12, R13) => some (x14, I12, R13)) : Option (Int32 × (Nat → Int32) × (Nat → Nat → Int32))).bind fun (x8, I9, R10) => some (x8, I9, R10) else none else none))
set_option maxHeartbeats 4000000 in
theorem c_Md_act (l : Launch) (n : Nat) (v1 : Int32) (v2 : Int32) (v3 : Int32) (I : Nat → Int32) (R : Nat → Nat → Int32)  : MMi l y_Md_act b_Md_act 4 .int (rL 12) (fun ad adK => [.int v1, .int v2, .int v3]) I R (p_Md_act n v1 v2 v3 I R) := by
  refine en_mi (by decide) rfl (fun _ _ => Nat.le_of_ble_eq_true rfl) ?_
  intro z hf p e s m args below meth c dC dI ad cI cZ A adK adV ls C hA h hr hlk hl
  have hl : lv_has ls 4 [(0, .ref (ad 0)), (1, .int v1), (2, .int v2), (3, .int v3)] := hl
  unfold p_Md_act at hf
  obtain ⟨hx, hb, hml, hown, hT, -⟩ := id C
  refine lv_aload_n hx hb d_Md_act_0 rfl (lv_at hl 0 rfl) ?_
  refine lv_iconst (v := 0) hx hb d_Md_act_1 (by decide) ?_
  refine mp_20 C h d_Md_act_2 (fun H locs h => ?_)
  refine lv_aload_n hx hb d_Md_act_5 rfl (lv_at hl 0 rfl) ?_
  refine lv_iload_n hx hb d_Md_act_6 rfl (lv_at hl 1 rfl) ?_
  obtain ⟨x2, hc1, hf⟩ := op_bind hf
  refine kc_r (rest := []) C h hA (c_Md_isPerson l n v1 (upd I 20 0) R) hc1 (cbW 1 hT cd_Md_isPerson rfl rfl ini_Md ml_Md_131 hd_Md_isPerson ⟨Nat.le_of_ble_eq_true rfl, Nat.le_of_ble_eq_true rfl⟩) im_Md_isPerson sp_Md_isPerson rfl hl.1 rfl (Nat.le_of_ble_eq_true rfl) d_Md_act_7 ⟨Nat.zero_le _, Nat.zero_le _⟩ (fun H locs h => ?_)
  refine lv_if_eq (tgt := 22) hx hb d_Md_act_10 (by decide) (fun hc => ?_) (fun hc => ?_)
  · have hf := op_t hc hf
    refine lv_iconst (v := 0) hx hb d_Md_act_22 (by decide) ?_
    exact rt_mi C h hr hlk hf rfl d_Md_act_23
  · have hf := op_f hc hf
    refine lv_iload_n hx hb d_Md_act_13 rfl (lv_at hl 2 rfl) ?_
    refine lv_iconst (v := 0) hx hb d_Md_act_14 (by decide) ?_
    refine lv_iconst (v := 2) hx hb d_Md_act_15 (by decide) ?_
    obtain ⟨x4, hc3, hf⟩ := op_bind hf
    refine ks_i (rest := []) hx hb hml hown hT (c_Md_in l n v2 0 2 _ hc3) (cbW 3 hT cd_Md_in rfl rfl ini_Md ml_Md_44 hd_Md_in ⟨Nat.le_of_ble_eq_true rfl, Nat.le_of_ble_eq_true rfl⟩) sm_Md_in rfl hl.1 rfl (Nat.le_of_ble_eq_true rfl) d_Md_act_16 ⟨Nat.zero_le _, Nat.zero_le _⟩ ?_
    refine lv_if_ne (tgt := 24) hx hb d_Md_act_19 (by decide) (fun hc => ?_) (fun hc => ?_)
    · have hf := op_f hc hf
      refine lv_aload_n hx hb d_Md_act_24 rfl (lv_at hl 0 rfl) ?_
      refine lv_aload_n hx hb d_Md_act_25 rfl (lv_at hl 0 rfl) ?_
      refine mg_1 C h d_Md_act_26 ?_
      refine lv_bipush (v := 10) hx hb d_Md_act_29 (by decide) ?_
      refine lv_iload_n hx hb d_Md_act_31 rfl (lv_at hl 1 rfl) ?_
      refine lv_iadd hx hb d_Md_act_32 ?_
      obtain ⟨h5, hf⟩ := op_if hf
      refine ma_1 C h rfl h5 d_Md_act_33 ?_
      refine mp_21 C h d_Md_act_34 (fun H locs h => ?_)
      refine lv_aload_n hx hb d_Md_act_37 rfl (lv_at hl 0 rfl) ?_
      refine lv_iload_n hx hb d_Md_act_38 rfl (lv_at hl 1 rfl) ?_
      refine mp_22 C h d_Md_act_39 (fun H locs h => ?_)
      refine lv_aload_n hx hb d_Md_act_42 rfl (lv_at hl 0 rfl) ?_
      refine lv_aload_n hx hb d_Md_act_43 rfl (lv_at hl 0 rfl) ?_
      refine mg_1 C h d_Md_act_44 ?_
      refine lv_bipush (v := 16) hx hb d_Md_act_47 (by decide) ?_
      refine lv_iload_n hx hb d_Md_act_49 rfl (lv_at hl 1 rfl) ?_
      refine lv_iadd hx hb d_Md_act_50 ?_
      obtain ⟨h6, hf⟩ := op_if hf
      refine ma_1 C h rfl h6 d_Md_act_51 ?_
      refine mp_23 C h d_Md_act_52 (fun H locs h => ?_)
      refine lv_iload_n hx hb d_Md_act_55 rfl (lv_at hl 2 rfl) ?_
      obtain ⟨⟨x8, I9, R10⟩, he, hf⟩ := op_bind hf
      try dsimp only at hf
      have K7 : ∀ (ls : Array Slot), lv_has ls 4 [] → ∀ (H : Heap) (locs : List Loc), mH A s.heap dC dI ad cI cZ I9 R10 H locs → W p l e (rL 12) s m args below meth c H locs 0 0 (mQi dC dI ad cI cZ A below args s z) (F0 m 85 ls [.int x8]) := by
        intro ls hl H locs h
        exact rt_mi C h hr hlk hf rfl d_Md_act_85
      have hf := he
      refine lv_if_ne (tgt := 67) hx hb d_Md_act_56 (by decide) (fun hc => ?_) (fun hc => ?_)
      · have hf := op_f hc hf
        refine lv_iload_n hx hb d_Md_act_67 rfl (lv_at hl 2 rfl) ?_
        refine lv_iconst (v := 1) hx hb d_Md_act_68 (by decide) ?_
        refine lv_icmp_ne (tgt := 80) hx hb d_Md_act_69 (by decide) (fun hc => ?_) (fun hc => ?_)
        · have hf := op_f hc hf
          refine lv_aload_n hx hb d_Md_act_80 rfl (lv_at hl 0 rfl) ?_
          refine lv_iload_n hx hb d_Md_act_81 rfl (lv_at hl 3 rfl) ?_
          obtain ⟨⟨x14, I12, R13⟩, hc11, hf⟩ := op_bind hf
          try dsimp only at hf
          refine kc_i (rest := []) C h hA (c_Md_tellsActs l n v3 ((upd (upd (upd (upd I 20 0) 21 (R 1 (10 + v1).toNatClampNeg)) 22 v1) 23 (R 1 (16 + v1).toNatClampNeg))) R) hc11 (cbW 1 hT cd_Md_tellsActs rfl rfl ini_Md ml_Md_277 hd_Md_tellsActs ⟨Nat.le_of_ble_eq_true rfl, Nat.le_of_ble_eq_true rfl⟩) im_Md_tellsActs sp_Md_tellsActs rfl hl.1 rfl (Nat.le_of_ble_eq_true rfl) d_Md_act_82 ⟨Nat.zero_le _, Nat.zero_le _⟩ (fun H locs h => ?_)
          obtain ⟨rfl, rfl, rfl⟩ := op_i3 hf
          exact K7 ls (lv_sub hl [] rfl) H locs h
        · have hf := op_t hc hf
          refine lv_aload_n hx hb d_Md_act_72 rfl (lv_at hl 0 rfl) ?_
          refine lv_iload_n hx hb d_Md_act_73 rfl (lv_at hl 3 rfl) ?_
          obtain ⟨⟨x18, I16, R17⟩, hc15, hf⟩ := op_bind hf
          try dsimp only at hf
          refine kc_i (rest := []) C h hA (c_Md_waitsActs l n v3 ((upd (upd (upd (upd I 20 0) 21 (R 1 (10 + v1).toNatClampNeg)) 22 v1) 23 (R 1 (16 + v1).toNatClampNeg))) R) hc15 (cbW 1 hT cd_Md_waitsActs rfl rfl ini_Md ml_Md_271 hd_Md_waitsActs ⟨Nat.le_of_ble_eq_true rfl, Nat.le_of_ble_eq_true rfl⟩) im_Md_waitsActs sp_Md_waitsActs rfl hl.1 rfl (Nat.le_of_ble_eq_true rfl) d_Md_act_74 ⟨Nat.zero_le _, Nat.zero_le _⟩ (fun H locs h => ?_)
          refine lv_goto (tgt := 85) hx hb d_Md_act_77 (by decide) ?_
          obtain ⟨rfl, rfl, rfl⟩ := op_i3 hf
          exact K7 ls (lv_sub hl [] rfl) H locs h
      · have hf := op_t hc hf
        refine lv_aload_n hx hb d_Md_act_59 rfl (lv_at hl 0 rfl) ?_
        refine lv_iload_n hx hb d_Md_act_60 rfl (lv_at hl 3 rfl) ?_
        obtain ⟨⟨x22, I20, R21⟩, hc19, hf⟩ := op_bind hf
        try dsimp only at hf
        refine kc_i (rest := []) C h hA (c_Md_goesActs l n v3 ((upd (upd (upd (upd I 20 0) 21 (R 1 (10 + v1).toNatClampNeg)) 22 v1) 23 (R 1 (16 + v1).toNatClampNeg))) R) hc19 (cbW 1 hT cd_Md_goesActs rfl rfl ini_Md ml_Md_262 hd_Md_goesActs ⟨Nat.le_of_ble_eq_true rfl, Nat.le_of_ble_eq_true rfl⟩) im_Md_goesActs sp_Md_goesActs rfl hl.1 rfl (Nat.le_of_ble_eq_true rfl) d_Md_act_61 ⟨Nat.zero_le _, Nat.zero_le _⟩ (fun H locs h => ?_)
        refine lv_goto (tgt := 85) hx hb d_Md_act_64 (by decide) ?_
        obtain ⟨rfl, rfl, rfl⟩ := op_i3 hf
        exact K7 ls (lv_sub hl [] rfl) H locs h
    · have hf := op_t hc hf
      refine lv_iconst (v := 0) hx hb d_Md_act_22 (by decide) ?_
      exact rt_mi C h hr hlk hf rfl d_Md_act_23
