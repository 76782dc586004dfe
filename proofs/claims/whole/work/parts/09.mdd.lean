theorem hd_Md_canGo : y_Md_canGo.cls ≠ "java/lang/invoke/MethodHandle" ∧ y_Md_canGo.cls ≠ "java/lang/invoke/VarHandle" ∧ (parseMethodDescriptor y_Md_canGo.desc).map (fun d => d.parameters.length) = some 2 := by decide +kernel
theorem d_Md_canGo_0 : decode b_Md_canGo 0 = .ok (.iconst 0, 1) := by decide +kernel
theorem d_Md_canGo_1 : decode b_Md_canGo 1 = .ok (.istore_n 3, 1) := by decide +kernel
theorem d_Md_canGo_2 : decode b_Md_canGo 2 = .ok (.iload_n 1, 1) := by decide +kernel
theorem d_Md_canGo_3 : decode b_Md_canGo 3 = .ok (.invokestatic 139, 3) := by decide +kernel
theorem d_Md_canGo_6 : decode b_Md_canGo 6 = .ok (.iconst 1, 1) := by decide +kernel
theorem d_Md_canGo_7 : decode b_Md_canGo 7 = .ok (.aload_n 0, 1) := by decide +kernel
theorem d_Md_canGo_8 : decode b_Md_canGo 8 = .ok (.iconst 0, 1) := by decide +kernel
theorem d_Md_canGo_9 : decode b_Md_canGo 9 = .ok (.invokevirtual 161, 3) := by decide +kernel
theorem d_Md_canGo_12 : decode b_Md_canGo 12 = .ok (.invokestatic 44, 3) := by decide +kernel
theorem d_Md_canGo_15 : decode b_Md_canGo 15 = .ok (.istore 4, 2) := by decide +kernel
theorem d_Md_canGo_17 : decode b_Md_canGo 17 = .ok (.iconst 0, 1) := by decide +kernel
theorem d_Md_canGo_18 : decode b_Md_canGo 18 = .ok (.istore 5, 2) := by decide +kernel
theorem d_Md_canGo_20 : decode b_Md_canGo 20 = .ok (.iload 5, 2) := by decide +kernel
theorem d_Md_canGo_22 : decode b_Md_canGo 22 = .ok (.aload_n 0, 1) := by decide +kernel
theorem d_Md_canGo_23 : decode b_Md_canGo 23 = .ok (.getfield 9, 3) := by decide +kernel
theorem d_Md_canGo_26 : decode b_Md_canGo 26 = .ok (.iconst 0, 1) := by decide +kernel
theorem d_Md_canGo_27 : decode b_Md_canGo 27 = .ok (.iaload, 1) := by decide +kernel
theorem d_Md_canGo_28 : decode b_Md_canGo 28 = .ok (.if_icmp .ge 59, 3) := by decide +kernel
theorem d_Md_canGo_31 : decode b_Md_canGo 31 = .ok (.iload_n 1, 1) := by decide +kernel
theorem d_Md_canGo_32 : decode b_Md_canGo 32 = .ok (.iload 5, 2) := by decide +kernel
theorem d_Md_canGo_34 : decode b_Md_canGo 34 = .ok (.ishr, 1) := by decide +kernel
theorem d_Md_canGo_35 : decode b_Md_canGo 35 = .ok (.iconst 1, 1) := by decide +kernel
theorem d_Md_canGo_36 : decode b_Md_canGo 36 = .ok (.iand, 1) := by decide +kernel
theorem d_Md_canGo_37 : decode b_Md_canGo 37 = .ok (.iconst 1, 1) := by decide +kernel
theorem d_Md_canGo_38 : decode b_Md_canGo 38 = .ok (.if_icmp .ne 43, 3) := by decide +kernel
theorem d_Md_canGo_41 : decode b_Md_canGo 41 = .ok (.iload_n 3, 1) := by decide +kernel
theorem d_Md_canGo_42 : decode b_Md_canGo 42 = .ok (.aload_n 0, 1) := by decide +kernel
theorem d_Md_canGo_43 : decode b_Md_canGo 43 = .ok (.getfield 9, 3) := by decide +kernel
theorem d_Md_canGo_46 : decode b_Md_canGo 46 = .ok (.bipush 28, 2) := by decide +kernel
theorem d_Md_canGo_48 : decode b_Md_canGo 48 = .ok (.iload 5, 2) := by decide +kernel
theorem d_Md_canGo_50 : decode b_Md_canGo 50 = .ok (.iadd, 1) := by decide +kernel
theorem d_Md_canGo_51 : decode b_Md_canGo 51 = .ok (.iaload, 1) := by decide +kernel
theorem d_Md_canGo_52 : decode b_Md_canGo 52 = .ok (.iadd, 1) := by decide +kernel
theorem d_Md_canGo_53 : decode b_Md_canGo 53 = .ok (.istore_n 3, 1) := by decide +kernel
theorem d_Md_canGo_54 : decode b_Md_canGo 54 = .ok (.aload_n 0, 1) := by decide +kernel
theorem d_Md_canGo_55 : decode b_Md_canGo 55 = .ok (.iload 5, 2) := by decide +kernel
theorem d_Md_canGo_57 : decode b_Md_canGo 57 = .ok (.iload_n 1, 1) := by decide +kernel
theorem d_Md_canGo_58 : decode b_Md_canGo 58 = .ok (.iload_n 2, 1) := by decide +kernel
theorem d_Md_canGo_59 : decode b_Md_canGo 59 = .ok (.invokevirtual 149, 3) := by decide +kernel
theorem d_Md_canGo_62 : decode b_Md_canGo 62 = .ok (.iload 4, 2) := by decide +kernel
theorem d_Md_canGo_64 : decode b_Md_canGo 64 = .ok (.ifCond .eq 14, 3) := by decide +kernel
theorem d_Md_canGo_67 : decode b_Md_canGo 67 = .ok (.aload_n 0, 1) := by decide +kernel
theorem d_Md_canGo_68 : decode b_Md_canGo 68 = .ok (.getfield 146, 3) := by decide +kernel
theorem d_Md_canGo_71 : decode b_Md_canGo 71 = .ok (.ifCond .ne 7, 3) := by decide +kernel
theorem d_Md_canGo_74 : decode b_Md_canGo 74 = .ok (.iconst 1, 1) := by decide +kernel
theorem d_Md_canGo_75 : decode b_Md_canGo 75 = .ok (.goto 4, 3) := by decide +kernel
theorem d_Md_canGo_78 : decode b_Md_canGo 78 = .ok (.iconst 0, 1) := by decide +kernel
theorem d_Md_canGo_79 : decode b_Md_canGo 79 = .ok (.istore 4, 2) := by decide +kernel
theorem d_Md_canGo_81 : decode b_Md_canGo 81 = .ok (.iinc 5 1, 3) := by decide +kernel
theorem d_Md_canGo_84 : decode b_Md_canGo 84 = .ok (.goto (-64), 3) := by decide +kernel
theorem d_Md_canGo_87 : decode b_Md_canGo 87 = .ok (.iload 4, 2) := by decide +kernel
theorem d_Md_canGo_89 : decode b_Md_canGo 89 = .ok (.ifCond .eq 16, 3) := by decide +kernel
theorem d_Md_canGo_92 : decode b_Md_canGo 92 = .ok (.iload_n 3, 1) := by decide +kernel
theorem d_Md_canGo_93 : decode b_Md_canGo 93 = .ok (.aload_n 0, 1) := by decide +kernel
theorem d_Md_canGo_94 : decode b_Md_canGo 94 = .ok (.iconst 1, 1) := by decide +kernel
theorem d_Md_canGo_95 : decode b_Md_canGo 95 = .ok (.invokevirtual 161, 3) := by decide +kernel
theorem d_Md_canGo_98 : decode b_Md_canGo 98 = .ok (.if_icmp .gt 7, 3) := by decide +kernel
theorem d_Md_canGo_101 : decode b_Md_canGo 101 = .ok (.iconst 1, 1) := by decide +kernel
theorem d_Md_canGo_102 : decode b_Md_canGo 102 = .ok (.goto 4, 3) := by decide +kernel
theorem d_Md_canGo_105 : decode b_Md_canGo 105 = .ok (.iconst 0, 1) := by decide +kernel
theorem d_Md_canGo_106 : decode b_Md_canGo 106 = .ok (.ireturn, 1) := by decide +kernel
def l_Md_canGo_20 (n : Nat)  (v1 : Int32) (v2 : Int32)  : Nat → Int32 → Int32 → Int32 → (Nat → Int32) → (Nat → Nat → Int32) → Option (Int32 × Int32 × (Nat → Int32) × (Nat → Nat → Int32))
  | 0, _, _, _, _, _ => none
  | k + 1, v3, v4, v5, I, R => (if (R 1 0) ≤ v5 then some (v3, v4, I, R) else (if ((v1 >>> (v5 &&& 31)) &&& 1) = 1 then if ix (28 + v5) 890 then (p_Md_looks n v5 v1 v2 I R).bind fun (I14, R15) => (if v4 = 0 then some 0 else (if (I14 12) = 0 then some 1 else some 0) : Option (Int32)).bind fun x17 => some ((v3 + (R 1 (28 + v5).toNatClampNeg)), x17, I14, R15) else none else some (v3, v4, I, R) : Option (Int32 × Int32 × (Nat → Int32) × (Nat → Nat → Int32))).bind fun (x8, x9, I10, R11) => l_Md_canGo_20 n v1 v2 k x8 x9 (v5 + 1) I10 R11)
set_option maxHeartbeats 4000000 in
theorem wl_Md_canGo_20 {Q : State → Prop}  {p : Program} {l : Launch} {e : Env} {s : State} {m : MethodId} {args : Array Value} {below : List Frame} {meth : Method} {c : Code} {dC : Nat → ClassId} {dI : Nat → Nat → Nat} {ad : Nat → Nat} {cI cZ : ClassId} {A : Nat → Prop} {adK adV : Nat → Nat} (C : mC p s m args c b_Md_canGo 6 dC dI cI cZ A adK adV) (hA : ∀ q, s.heap.size ≤ q → A q) (hr : meth.sig.returnType = some .boolean) (hlk : meth.locks = false) (n : Nat)  (v1 : Int32) (v2 : Int32)  : ∀ (k : Nat) (v3 : Int32) (v4 : Int32) (v5 : Int32) (I : Nat → Int32) (R : Nat → Nat → Int32) (r0 : Int32) (r1 : Int32) (r2 : Nat → Int32) (r3 : Nat → Nat → Int32), l_Md_canGo_20 n v1 v2 k v3 v4 v5 I R = some (r0, r1, r2, r3) → (∀ (ls : Array Slot), lv_has ls 6 [(0, .ref (ad 0)), (3, .int r0), (4, .int r1)] → ∀ (H : Heap) (locs : List Loc), mH A s.heap dC dI ad cI cZ r2 r3 H locs → W p l e (rL 7) s m args below meth c H locs 0 0 Q (F0 m 87 ls [])) → ∀ (ls : Array Slot), lv_has ls 6 [(0, .ref (ad 0)), (1, .int v1), (2, .int v2), (3, .int v3), (4, .int v4), (5, .int v5)] → ∀ (H : Heap) (locs : List Loc), mH A s.heap dC dI ad cI cZ I R H locs → W p l e (rL 7) s m args below meth c H locs 0 0 Q (F0 m 20 ls []) := by
  obtain ⟨hx, hb, hml, hown, hT, -⟩ := id C
  intro k
  induction k with
  | zero => intro v3 v4 v5 I R r0 r1 r2 r3 hf; exact absurd hf (by unfold l_Md_canGo_20; exact fun h9 => by cases h9)
  | succ k ih =>
    intro v3 v4 v5 I R r0 r1 r2 r3 hf K ls hl H locs h
    unfold l_Md_canGo_20 at hf
    refine lv_iload hx hb d_Md_canGo_20 (lv_at hl 5 rfl) ?_
    refine lv_aload_n hx hb d_Md_canGo_22 rfl (lv_at hl 0 rfl) ?_
    refine mg_1 C h d_Md_canGo_23 ?_
    refine lv_iconst (v := 0) hx hb d_Md_canGo_26 (by decide) ?_
    refine ma_1 C h (j := 0) (by decide) (show ix 0 890 by decide) d_Md_canGo_27 ?_
    refine lv_icmp_ge (tgt := 87) hx hb d_Md_canGo_28 (by decide) (fun hc => ?_) (fun hc => ?_)
    · have hf := op_t hc hf
      obtain ⟨rfl, rfl, rfl, rfl⟩ := op_i4 hf
      exact K ls (lv_sub hl [0, 3, 4] rfl) H locs h
    · have hf := op_f hc hf
      refine lv_iload_n hx hb d_Md_canGo_31 rfl (lv_at hl 1 rfl) ?_
      refine lv_iload hx hb d_Md_canGo_32 (lv_at hl 5 rfl) ?_
      refine lv_ishr hx hb d_Md_canGo_34 ?_
      refine lv_iconst (v := 1) hx hb d_Md_canGo_35 (by decide) ?_
      refine lv_iand hx hb d_Md_canGo_36 ?_
      refine lv_iconst (v := 1) hx hb d_Md_canGo_37 (by decide) ?_
      obtain ⟨⟨x8, x9, I10, R11⟩, he, hf⟩ := op_bind hf
      try dsimp only at hf
      have K7 : ∀ (ls : Array Slot), lv_has ls 6 [(0, .ref (ad 0)), (1, .int v1), (2, .int v2), (3, .int x8), (4, .int x9), (5, .int v5)] → ∀ (H : Heap) (locs : List Loc), mH A s.heap dC dI ad cI cZ I10 R11 H locs → W p l e (rL 7) s m args below meth c H locs 0 0 Q (F0 m 81 ls []) := by
        intro ls hl H locs h
        refine lv_iinc (v := (v5 + 1)) (lv' := [(5, .int (v5 + 1)), (0, .ref (ad 0)), (1, .int v1), (2, .int v2), (3, .int x8), (4, .int x9)]) hx hb d_Md_canGo_81 hl (k := 5) rfl rfl (by decide) rfl (fun ls hl => ?_)
        refine lv_goto (tgt := 20) hx hb d_Md_canGo_84 (by decide) ?_
        exact ih x8 x9 (v5 + 1) I10 R11 _ _ _ _ hf K ls (lv_sub hl [1, 2, 3, 4, 5, 0] rfl) H locs h
      have hf := he
      refine lv_icmp_ne (tgt := 81) hx hb d_Md_canGo_38 (by decide) (fun hc => ?_) (fun hc => ?_)
      · have hf := op_f hc hf
        obtain ⟨rfl, rfl, rfl, rfl⟩ := op_i4 hf
        exact K7 ls (lv_sub hl [0, 1, 2, 3, 4, 5] rfl) H locs h
      · have hf := op_t hc hf
        refine lv_iload_n hx hb d_Md_canGo_41 rfl (lv_at hl 3 rfl) ?_
        refine lv_aload_n hx hb d_Md_canGo_42 rfl (lv_at hl 0 rfl) ?_
        refine mg_1 C h d_Md_canGo_43 ?_
        refine lv_bipush (v := 28) hx hb d_Md_canGo_46 (by decide) ?_
        refine lv_iload hx hb d_Md_canGo_48 (lv_at hl 5 rfl) ?_
        refine lv_iadd hx hb d_Md_canGo_50 ?_
        obtain ⟨h12, hf⟩ := op_if hf
        refine ma_1 C h rfl h12 d_Md_canGo_51 ?_
        refine lv_iadd hx hb d_Md_canGo_52 ?_
        refine lv_istore_n (lv' := [(3, .int (v3 + (R 1 (28 + v5).toNatClampNeg))), (0, .ref (ad 0)), (1, .int v1), (2, .int v2), (4, .int v4), (5, .int v5)]) hx hb d_Md_canGo_53 rfl hl (by decide) rfl (fun ls hl => ?_)
        refine lv_aload_n hx hb d_Md_canGo_54 rfl (lv_at hl 1 rfl) ?_
        refine lv_iload hx hb d_Md_canGo_55 (lv_at hl 5 rfl) ?_
        refine lv_iload_n hx hb d_Md_canGo_57 rfl (lv_at hl 2 rfl) ?_
        refine lv_iload_n hx hb d_Md_canGo_58 rfl (lv_at hl 3 rfl) ?_
        obtain ⟨⟨I14, R15⟩, hc13, hf⟩ := op_bind hf
        try dsimp only at hf
        refine kc_v (rest := []) C h hA (c_Md_looks l n v5 v1 v2 I R) hc13 (cbW 3 hT cd_Md_looks rfl rfl ini_Md ml_Md_149 hd_Md_looks ⟨Nat.le_of_ble_eq_true rfl, Nat.le_of_ble_eq_true rfl⟩) im_Md_looks sp_Md_looks rfl hl.1 rfl (Nat.le_of_ble_eq_true rfl) d_Md_canGo_59 ⟨Nat.zero_le _, Nat.zero_le _⟩ (fun H locs h => ?_)
        refine lv_iload hx hb d_Md_canGo_62 (lv_at hl 4 rfl) ?_
        obtain ⟨x17, he, hf⟩ := op_bind hf
        have K16 : ∀ (ls : Array Slot), lv_has ls 6 [(0, .ref (ad 0)), (1, .int v1), (2, .int v2), (3, .int (v3 + (R 1 (28 + v5).toNatClampNeg))), (5, .int v5)] → ∀ (H : Heap) (locs : List Loc), mH A s.heap dC dI ad cI cZ I14 R15 H locs → W p l e (rL 7) s m args below meth c H locs 0 0 Q (F0 m 79 ls [.int x17]) := by
          intro ls hl H locs h
          refine lv_istore (lv' := [(4, .int x17), (0, .ref (ad 0)), (1, .int v1), (2, .int v2), (3, .int (v3 + (R 1 (28 + v5).toNatClampNeg))), (5, .int v5)]) hx hb d_Md_canGo_79 hl (by decide) rfl (fun ls hl => ?_)
          obtain ⟨rfl, rfl, rfl, rfl⟩ := op_i4 hf
          exact K7 ls (lv_sub hl [1, 2, 3, 4, 0, 5] rfl) H locs h
        have hf := he
        refine lv_if_eq (tgt := 78) hx hb d_Md_canGo_64 (by decide) (fun hc => ?_) (fun hc => ?_)
        · have hf := op_t hc hf
          refine lv_iconst (v := 0) hx hb d_Md_canGo_78 (by decide) ?_
          obtain rfl := op_i1 hf
          exact K16 ls (lv_sub hl [1, 2, 3, 0, 5] rfl) H locs h
        · have hf := op_f hc hf
          refine lv_aload_n hx hb d_Md_canGo_67 rfl (lv_at hl 1 rfl) ?_
          refine mg_12 C h d_Md_canGo_68 ?_
          refine lv_if_ne (tgt := 78) hx hb d_Md_canGo_71 (by decide) (fun hc => ?_) (fun hc => ?_)
          · have hf := op_f hc hf
            refine lv_iconst (v := 0) hx hb d_Md_canGo_78 (by decide) ?_
            obtain rfl := op_i1 hf
            exact K16 ls (lv_sub hl [1, 2, 3, 0, 5] rfl) H locs h
          · have hf := op_t hc hf
            refine lv_iconst (v := 1) hx hb d_Md_canGo_74 (by decide) ?_
            refine lv_goto (tgt := 79) hx hb d_Md_canGo_75 (by decide) ?_
            obtain rfl := op_i1 hf
            exact K16 ls (lv_sub hl [1, 2, 3, 0, 5] rfl) H locs h
def p_Md_canGo (n : Nat) (v1 : Int32) (v2 : Int32) (I : Nat → Int32) (R : Nat → Nat → Int32) : Option (Int32 × MU) := (p_Md_count1 n v1).bind fun x2 => (p_Md_told n 0 I R).bind fun x4 => (p_Md_in n x2 1 x4).bind fun x6 => (l_Md_canGo_20 n v1 v2 n 0 x6 0 I R).bind fun (y18, y19, I20, R21) => (if y19 = 0 then some 0 else (p_Md_told n 1 I20 R21).bind fun x25 => (if x25 < y18 then some 0 else some 1) : Option (Int32)).bind fun x23 => if isZ x23 then some (x23, I20, R21) else none
set_option maxHeartbeats 4000000 in
theorem c_Md_canGo (l : Launch) (n : Nat) (v1 : Int32) (v2 : Int32) (I : Nat → Int32) (R : Nat → Nat → Int32)  : MMi l y_Md_canGo b_Md_canGo 6 .boolean (rL 7) (fun ad adK => [.int v1, .int v2]) I R (p_Md_canGo n v1 v2 I R) := by
  refine en_mi (by decide) rfl (fun _ _ => Nat.le_of_ble_eq_true rfl) ?_
  intro z hf p e s m args below meth c dC dI ad cI cZ A adK adV ls C hA h hr hlk hl
  have hl : lv_has ls 6 [(0, .ref (ad 0)), (1, .int v1), (2, .int v2)] := hl
  unfold p_Md_canGo at hf
  obtain ⟨hx, hb, hml, hown, hT, -⟩ := id C
  refine lv_iconst (v := 0) hx hb d_Md_canGo_0 (by decide) ?_
  refine lv_istore_n (lv' := [(3, .int 0), (0, .ref (ad 0)), (1, .int v1), (2, .int v2)]) hx hb d_Md_canGo_1 rfl hl (by decide) rfl (fun ls hl => ?_)
  refine lv_iload_n hx hb d_Md_canGo_2 rfl (lv_at hl 2 rfl) ?_
  obtain ⟨x2, hc1, hf⟩ := op_bind hf
  refine ks_i (rest := []) hx hb hml hown hT (c_Md_count1 l n v1 _ hc1) (cbW 1 hT cd_Md_count1 rfl rfl ini_Md ml_Md_139 hd_Md_count1 ⟨Nat.le_of_ble_eq_true rfl, Nat.le_of_ble_eq_true rfl⟩) sm_Md_count1 rfl hl.1 rfl (Nat.le_of_ble_eq_true rfl) d_Md_canGo_3 ⟨Nat.zero_le _, Nat.zero_le _⟩ ?_
  refine lv_iconst (v := 1) hx hb d_Md_canGo_6 (by decide) ?_
  refine lv_aload_n hx hb d_Md_canGo_7 rfl (lv_at hl 1 rfl) ?_
  refine lv_iconst (v := 0) hx hb d_Md_canGo_8 (by decide) ?_
  obtain ⟨x4, hc3, hf⟩ := op_bind hf
  refine kc_r (rest := [.int 1, .int x2]) C h hA (c_Md_told l n 0 I R) hc3 (cbW 1 hT cd_Md_told rfl rfl ini_Md ml_Md_161 hd_Md_told ⟨Nat.le_of_ble_eq_true rfl, Nat.le_of_ble_eq_true rfl⟩) im_Md_told se_Md_Md_told__Md_told rfl hl.1 rfl (Nat.le_of_ble_eq_true rfl) d_Md_canGo_9 ⟨Nat.zero_le _, Nat.zero_le _⟩ (fun H locs h => ?_)
  obtain ⟨x6, hc5, hf⟩ := op_bind hf
  refine ks_i (rest := []) hx hb hml hown hT (c_Md_in l n x2 1 x4 _ hc5) (cbW 3 hT cd_Md_in rfl rfl ini_Md ml_Md_44 hd_Md_in ⟨Nat.le_of_ble_eq_true rfl, Nat.le_of_ble_eq_true rfl⟩) sm_Md_in rfl hl.1 rfl (Nat.le_of_ble_eq_true rfl) d_Md_canGo_12 ⟨Nat.zero_le _, Nat.zero_le _⟩ ?_
  refine lv_istore (lv' := [(4, .int x6), (3, .int 0), (0, .ref (ad 0)), (1, .int v1), (2, .int v2)]) hx hb d_Md_canGo_15 hl (by decide) rfl (fun ls hl => ?_)
  refine lv_iconst (v := 0) hx hb d_Md_canGo_17 (by decide) ?_
  refine lv_istore (lv' := [(5, .int 0), (4, .int x6), (3, .int 0), (0, .ref (ad 0)), (1, .int v1), (2, .int v2)]) hx hb d_Md_canGo_18 hl (by decide) rfl (fun ls hl => ?_)
  obtain ⟨⟨y18, y19, I20, R21⟩, he, hf⟩ := op_bind hf
  try dsimp only at hf
  refine wl_Md_canGo_20 C hA hr hlk n v1 v2 n 0 x6 0 I R _ _ _ _ he (fun ls hl H locs h => ?_) ls (lv_sub hl [3, 4, 5, 2, 1, 0] rfl) H locs h
  refine lv_iload hx hb d_Md_canGo_87 (lv_at hl 2 rfl) ?_
  obtain ⟨x23, he, hf⟩ := op_bind hf
  have K22 : ∀ (ls : Array Slot), lv_has ls 6 [] → ∀ (H : Heap) (locs : List Loc), mH A s.heap dC dI ad cI cZ I20 R21 H locs → W p l e (rL 7) s m args below meth c H locs 0 0 (mQi dC dI ad cI cZ A below args s z) (F0 m 106 ls [.int x23]) := by
    intro ls hl H locs h
    obtain ⟨h26, hf⟩ := op_if hf
    exact rt_mi C h hr hlk hf (isZ_nar h26) d_Md_canGo_106
  have hf := he
  refine lv_if_eq (tgt := 105) hx hb d_Md_canGo_89 (by decide) (fun hc => ?_) (fun hc => ?_)
  · have hf := op_t hc hf
    refine lv_iconst (v := 0) hx hb d_Md_canGo_105 (by decide) ?_
    obtain rfl := op_i1 hf
    exact K22 ls (lv_sub hl [] rfl) H locs h
  · have hf := op_f hc hf
    refine lv_iload_n hx hb d_Md_canGo_92 rfl (lv_at hl 1 rfl) ?_
    refine lv_aload_n hx hb d_Md_canGo_93 rfl (lv_at hl 0 rfl) ?_
    refine lv_iconst (v := 1) hx hb d_Md_canGo_94 (by decide) ?_
    obtain ⟨x25, hc24, hf⟩ := op_bind hf
    refine kc_r (rest := [.int y18]) C h hA (c_Md_told l n 1 I20 R21) hc24 (cbW 1 hT cd_Md_told rfl rfl ini_Md ml_Md_161 hd_Md_told ⟨Nat.le_of_ble_eq_true rfl, Nat.le_of_ble_eq_true rfl⟩) im_Md_told se_Md_Md_told__Md_told rfl hl.1 rfl (Nat.le_of_ble_eq_true rfl) d_Md_canGo_95 ⟨Nat.zero_le _, Nat.zero_le _⟩ (fun H locs h => ?_)
    refine lv_icmp_gt (tgt := 105) hx hb d_Md_canGo_98 (by decide) (fun hc => ?_) (fun hc => ?_)
    · have hf := op_t hc hf
      refine lv_iconst (v := 0) hx hb d_Md_canGo_105 (by decide) ?_
      obtain rfl := op_i1 hf
      exact K22 ls (lv_sub hl [] rfl) H locs h
    · have hf := op_f hc hf
      refine lv_iconst (v := 1) hx hb d_Md_canGo_101 (by decide) ?_
      refine lv_goto (tgt := 106) hx hb d_Md_canGo_102 (by decide) ?_
      obtain rfl := op_i1 hf
      exact K22 ls (lv_sub hl [] rfl) H locs h
theorem hd_Md_looksFrom : y_Md_looksFrom.cls ≠ "java/lang/invoke/MethodHandle" ∧ y_Md_looksFrom.cls ≠ "java/lang/invoke/VarHandle" ∧ (parseMethodDescriptor y_Md_looksFrom.desc).map (fun d => d.parameters.length) = some 1 := by decide +kernel
theorem d_Md_looksFrom_0 : decode b_Md_looksFrom 0 = .ok (.iconst 0, 1) := by decide +kernel
theorem d_Md_looksFrom_1 : decode b_Md_looksFrom 1 = .ok (.istore_n 2, 1) := by decide +kernel
theorem d_Md_looksFrom_2 : decode b_Md_looksFrom 2 = .ok (.iload_n 2, 1) := by decide +kernel
theorem d_Md_looksFrom_3 : decode b_Md_looksFrom 3 = .ok (.sipush 128, 3) := by decide +kernel
theorem d_Md_looksFrom_6 : decode b_Md_looksFrom 6 = .ok (.if_icmp .ge 25, 3) := by decide +kernel
theorem d_Md_looksFrom_9 : decode b_Md_looksFrom 9 = .ok (.aload_n 0, 1) := by decide +kernel
theorem d_Md_looksFrom_10 : decode b_Md_looksFrom 10 = .ok (.getfield 28, 3) := by decide +kernel
theorem d_Md_looksFrom_13 : decode b_Md_looksFrom 13 = .ok (.iload_n 2, 1) := by decide +kernel
theorem d_Md_looksFrom_14 : decode b_Md_looksFrom 14 = .ok (.ldc 176, 2) := by decide +kernel
theorem d_Md_looksFrom_16 : decode b_Md_looksFrom 16 = .ok (.iastore, 1) := by decide +kernel
theorem d_Md_looksFrom_17 : decode b_Md_looksFrom 17 = .ok (.aload_n 0, 1) := by decide +kernel
theorem d_Md_looksFrom_18 : decode b_Md_looksFrom 18 = .ok (.getfield 31, 3) := by decide +kernel
theorem d_Md_looksFrom_21 : decode b_Md_looksFrom 21 = .ok (.iload_n 2, 1) := by decide +kernel
theorem d_Md_looksFrom_22 : decode b_Md_looksFrom 22 = .ok (.ldc 176, 2) := by decide +kernel
theorem d_Md_looksFrom_24 : decode b_Md_looksFrom 24 = .ok (.iastore, 1) := by decide +kernel
theorem d_Md_looksFrom_25 : decode b_Md_looksFrom 25 = .ok (.iinc 2 1, 3) := by decide +kernel
theorem d_Md_looksFrom_28 : decode b_Md_looksFrom 28 = .ok (.goto (-26), 3) := by decide +kernel
theorem d_Md_looksFrom_31 : decode b_Md_looksFrom 31 = .ok (.aload_n 0, 1) := by decide +kernel
theorem d_Md_looksFrom_32 : decode b_Md_looksFrom 32 = .ok (.getfield 28, 3) := by decide +kernel
theorem d_Md_looksFrom_35 : decode b_Md_looksFrom 35 = .ok (.iload_n 1, 1) := by decide +kernel
theorem d_Md_looksFrom_36 : decode b_Md_looksFrom 36 = .ok (.iconst 0, 1) := by decide +kernel
theorem d_Md_looksFrom_37 : decode b_Md_looksFrom 37 = .ok (.iastore, 1) := by decide +kernel
theorem d_Md_looksFrom_38 : decode b_Md_looksFrom 38 = .ok (.aload_n 0, 1) := by decide +kernel
theorem d_Md_looksFrom_39 : decode b_Md_looksFrom 39 = .ok (.getfield 31, 3) := by decide +kernel
theorem d_Md_looksFrom_42 : decode b_Md_looksFrom 42 = .ok (.iload_n 1, 1) := by decide +kernel
theorem d_Md_looksFrom_43 : decode b_Md_looksFrom 43 = .ok (.iconst 0, 1) := by decide +kernel
theorem d_Md_looksFrom_44 : decode b_Md_looksFrom 44 = .ok (.iastore, 1) := by decide +kernel
theorem d_Md_looksFrom_45 : decode b_Md_looksFrom 45 = .ok (.iconst 1, 1) := by decide +kernel
theorem d_Md_looksFrom_46 : decode b_Md_looksFrom 46 = .ok (.istore_n 2, 1) := by decide +kernel
theorem d_Md_looksFrom_47 : decode b_Md_looksFrom 47 = .ok (.iload_n 2, 1) := by decide +kernel
theorem d_Md_looksFrom_48 : decode b_Md_looksFrom 48 = .ok (.ifCond .eq 63, 3) := by decide +kernel
theorem d_Md_looksFrom_51 : decode b_Md_looksFrom 51 = .ok (.iconst 0, 1) := by decide +kernel
theorem d_Md_looksFrom_52 : decode b_Md_looksFrom 52 = .ok (.istore_n 2, 1) := by decide +kernel
theorem d_Md_looksFrom_53 : decode b_Md_looksFrom 53 = .ok (.iconst 0, 1) := by decide +kernel
theorem d_Md_looksFrom_54 : decode b_Md_looksFrom 54 = .ok (.istore_n 3, 1) := by decide +kernel
theorem d_Md_looksFrom_55 : decode b_Md_looksFrom 55 = .ok (.iload_n 3, 1) := by decide +kernel
theorem d_Md_looksFrom_56 : decode b_Md_looksFrom 56 = .ok (.sipush 128, 3) := by decide +kernel
theorem d_Md_looksFrom_59 : decode b_Md_looksFrom 59 = .ok (.if_icmp .ge 49, 3) := by decide +kernel
theorem d_Md_looksFrom_62 : decode b_Md_looksFrom 62 = .ok (.aload_n 0, 1) := by decide +kernel
theorem d_Md_looksFrom_63 : decode b_Md_looksFrom 63 = .ok (.getfield 28, 3) := by decide +kernel
theorem d_Md_looksFrom_66 : decode b_Md_looksFrom 66 = .ok (.iload_n 3, 1) := by decide +kernel
theorem d_Md_looksFrom_67 : decode b_Md_looksFrom 67 = .ok (.iaload, 1) := by decide +kernel
theorem d_Md_looksFrom_68 : decode b_Md_looksFrom 68 = .ok (.ldc 176, 2) := by decide +kernel
theorem d_Md_looksFrom_70 : decode b_Md_looksFrom 70 = .ok (.if_icmp .lt 14, 3) := by decide +kernel
theorem d_Md_looksFrom_73 : decode b_Md_looksFrom 73 = .ok (.aload_n 0, 1) := by decide +kernel
theorem d_Md_looksFrom_74 : decode b_Md_looksFrom 74 = .ok (.getfield 31, 3) := by decide +kernel
theorem d_Md_looksFrom_77 : decode b_Md_looksFrom 77 = .ok (.iload_n 3, 1) := by decide +kernel
theorem d_Md_looksFrom_78 : decode b_Md_looksFrom 78 = .ok (.iaload, 1) := by decide +kernel
theorem d_Md_looksFrom_79 : decode b_Md_looksFrom 79 = .ok (.ldc 176, 2) := by decide +kernel
theorem d_Md_looksFrom_81 : decode b_Md_looksFrom 81 = .ok (.if_icmp .ge 11, 3) := by decide +kernel
theorem d_Md_looksFrom_84 : decode b_Md_looksFrom 84 = .ok (.aload_n 0, 1) := by decide +kernel
theorem d_Md_looksFrom_85 : decode b_Md_looksFrom 85 = .ok (.iload_n 3, 1) := by decide +kernel
theorem d_Md_looksFrom_86 : decode b_Md_looksFrom 86 = .ok (.invokevirtual 177, 3) := by decide +kernel
theorem d_Md_looksFrom_89 : decode b_Md_looksFrom 89 = .ok (.ifCond .ne 7, 3) := by decide +kernel
theorem d_Md_looksFrom_92 : decode b_Md_looksFrom 92 = .ok (.iload_n 2, 1) := by decide +kernel
theorem d_Md_looksFrom_93 : decode b_Md_looksFrom 93 = .ok (.ifCond .eq 7, 3) := by decide +kernel
theorem d_Md_looksFrom_96 : decode b_Md_looksFrom 96 = .ok (.iconst 1, 1) := by decide +kernel
theorem d_Md_looksFrom_97 : decode b_Md_looksFrom 97 = .ok (.goto 4, 3) := by decide +kernel
theorem d_Md_looksFrom_100 : decode b_Md_looksFrom 100 = .ok (.iconst 0, 1) := by decide +kernel
theorem d_Md_looksFrom_101 : decode b_Md_looksFrom 101 = .ok (.istore_n 2, 1) := by decide +kernel
theorem d_Md_looksFrom_102 : decode b_Md_looksFrom 102 = .ok (.iinc 3 1, 3) := by decide +kernel
theorem d_Md_looksFrom_105 : decode b_Md_looksFrom 105 = .ok (.goto (-50), 3) := by decide +kernel
theorem d_Md_looksFrom_108 : decode b_Md_looksFrom 108 = .ok (.goto (-61), 3) := by decide +kernel
theorem d_Md_looksFrom_111 : decode b_Md_looksFrom 111 = .ok (.return_, 1) := by decide +kernel
def l_Md_looksFrom_2 (n : Nat)  (v1 : Int32)  : Nat → Int32 → (Nat → Int32) → (Nat → Nat → Int32) → Option ((Nat → Int32) × (Nat → Nat → Int32))
  | 0, _, _, _ => none
  | k + 1, v2, I, R => (if 128 ≤ v2 then some (I, R) else if ix v2 128 then if ix v2 128 then l_Md_looksFrom_2 n v1 k (v2 + 1) I (upR (upR R 14 v2.toNatClampNeg 1000000) 15 v2.toNatClampNeg 1000000) else none else none)
set_option maxHeartbeats 4000000 in
theorem wl_Md_looksFrom_2 {Q : State → Prop}  {p : Program} {l : Launch} {e : Env} {s : State} {m : MethodId} {args : Array Value} {below : List Frame} {meth : Method} {c : Code} {dC : Nat → ClassId} {dI : Nat → Nat → Nat} {ad : Nat → Nat} {cI cZ : ClassId} {A : Nat → Prop} {adK adV : Nat → Nat} (C : mC p s m args c b_Md_looksFrom 4 dC dI cI cZ A adK adV) (hA : ∀ q, s.heap.size ≤ q → A q) (hr : meth.sig.returnType = none) (hlk : meth.locks = false) (n : Nat)  (v1 : Int32)  : ∀ (k : Nat) (v2 : Int32) (I : Nat → Int32) (R : Nat → Nat → Int32) (r0 : Nat → Int32) (r1 : Nat → Nat → Int32), l_Md_looksFrom_2 n v1 k v2 I R = some (r0, r1) → (∀ (ls : Array Slot), lv_has ls 4 [(0, .ref (ad 0)), (1, .int v1)] → ∀ (H : Heap) (locs : List Loc), mH A s.heap dC dI ad cI cZ r0 r1 H locs → W p l e (rL 7) s m args below meth c H locs 0 0 Q (F0 m 31 ls [])) → ∀ (ls : Array Slot), lv_has ls 4 [(0, .ref (ad 0)), (1, .int v1), (2, .int v2)] → ∀ (H : Heap) (locs : List Loc), mH A s.heap dC dI ad cI cZ I R H locs → W p l e (rL 7) s m args below meth c H locs 0 0 Q (F0 m 2 ls []) := by
  obtain ⟨hx, hb, hml, hown, hT, -⟩ := id C
  intro k
  induction k with
  | zero => intro v2 I R r0 r1 hf; exact absurd hf (by unfold l_Md_looksFrom_2; exact fun h9 => by cases h9)
  | succ k ih =>
    intro v2 I R r0 r1 hf K ls hl H locs h
    unfold l_Md_looksFrom_2 at hf
    refine lv_iload_n hx hb d_Md_looksFrom_2 rfl (lv_at hl 2 rfl) ?_
    refine lv_sipush (v := 128) hx hb d_Md_looksFrom_3 (by decide) ?_
    refine lv_icmp_ge (tgt := 31) hx hb d_Md_looksFrom_6 (by decide) (fun hc => ?_) (fun hc => ?_)
    · have hf := op_t hc hf
      obtain ⟨rfl, rfl⟩ := op_i2 hf
      exact K ls (lv_sub hl [0, 1] rfl) H locs h
    · have hf := op_f hc hf
      refine lv_aload_n hx hb d_Md_looksFrom_9 rfl (lv_at hl 0 rfl) ?_
      refine mg_14 C h d_Md_looksFrom_10 ?_
      refine lv_iload_n hx hb d_Md_looksFrom_13 rfl (lv_at hl 2 rfl) ?_
      refine lv_ldc (v := 1000000) hx hb hown (hT _ ko_Md_176) d_Md_looksFrom_14 ?_
      obtain ⟨h1, hf⟩ := op_if hf
      refine ms_14 C h rfl h1 d_Md_looksFrom_16 (fun H locs h => ?_)
      refine lv_aload_n hx hb d_Md_looksFrom_17 rfl (lv_at hl 0 rfl) ?_
      refine mg_15 C h d_Md_looksFrom_18 ?_
      refine lv_iload_n hx hb d_Md_looksFrom_21 rfl (lv_at hl 2 rfl) ?_
      refine lv_ldc (v := 1000000) hx hb hown (hT _ ko_Md_176) d_Md_looksFrom_22 ?_
      obtain ⟨h2, hf⟩ := op_if hf
      refine ms_15 C h rfl h2 d_Md_looksFrom_24 (fun H locs h => ?_)
      refine lv_iinc (v := (v2 + 1)) (lv' := [(2, .int (v2 + 1)), (0, .ref (ad 0)), (1, .int v1)]) hx hb d_Md_looksFrom_25 hl (k := 2) rfl rfl (by decide) rfl (fun ls hl => ?_)
      refine lv_goto (tgt := 2) hx hb d_Md_looksFrom_28 (by decide) ?_
      exact ih (v2 + 1) I (upR (upR R 14 v2.toNatClampNeg 1000000) 15 v2.toNatClampNeg 1000000) _ _ hf K ls (lv_sub hl [1, 2, 0] rfl) H locs h
def l_Md_looksFrom_55 (n : Nat)    : Nat → Int32 → Int32 → (Nat → Int32) → (Nat → Nat → Int32) → Option (Int32 × (Nat → Int32) × (Nat → Nat → Int32))
  | 0, _, _, _, _ => none
  | k + 1, v2, v3, I, R => (if 128 ≤ v3 then some (v2, I, R) else if ix v3 128 then (if (R 14 v3.toNatClampNeg) < 1000000 then (p_Md_comesCloser n v3 I R).bind fun (x15, I13, R14) => (if x15 = 0 then (if v2 = 0 then some (0, I13, R14) else some (1, I13, R14)) else some (1, I13, R14)) else if ix v3 128 then (if 1000000 ≤ (R 15 v3.toNatClampNeg) then (if v2 = 0 then some (0, I, R) else some (1, I, R)) else (p_Md_comesCloser n v3 I R).bind fun (x20, I18, R19) => (if x20 = 0 then (if v2 = 0 then some (0, I18, R19) else some (1, I18, R19)) else some (1, I18, R19))) else none : Option (Int32 × (Nat → Int32) × (Nat → Nat → Int32))).bind fun (x9, I10, R11) => l_Md_looksFrom_55 n k x9 (v3 + 1) I10 R11 else none)
set_option maxHeartbeats 4000000 in
theorem wl_Md_looksFrom_55 {Q : State → Prop}  {p : Program} {l : Launch} {e : Env} {s : State} {m : MethodId} {args : Array Value} {below : List Frame} {meth : Method} {c : Code} {dC : Nat → ClassId} {dI : Nat → Nat → Nat} {ad : Nat → Nat} {cI cZ : ClassId} {A : Nat → Prop} {adK adV : Nat → Nat} (C : mC p s m args c b_Md_looksFrom 4 dC dI cI cZ A adK adV) (hA : ∀ q, s.heap.size ≤ q → A q) (hr : meth.sig.returnType = none) (hlk : meth.locks = false) (n : Nat)    : ∀ (k : Nat) (v2 : Int32) (v3 : Int32) (I : Nat → Int32) (R : Nat → Nat → Int32) (r0 : Int32) (r1 : Nat → Int32) (r2 : Nat → Nat → Int32), l_Md_looksFrom_55 n k v2 v3 I R = some (r0, r1, r2) → (∀ (ls : Array Slot), lv_has ls 4 [(0, .ref (ad 0)), (2, .int r0)] → ∀ (H : Heap) (locs : List Loc), mH A s.heap dC dI ad cI cZ r1 r2 H locs → W p l e (rL 7) s m args below meth c H locs 0 0 Q (F0 m 108 ls [])) → ∀ (ls : Array Slot), lv_has ls 4 [(0, .ref (ad 0)), (2, .int v2), (3, .int v3)] → ∀ (H : Heap) (locs : List Loc), mH A s.heap dC dI ad cI cZ I R H locs → W p l e (rL 7) s m args below meth c H locs 0 0 Q (F0 m 55 ls []) := by
  obtain ⟨hx, hb, hml, hown, hT, -⟩ := id C
  intro k
  induction k with
  | zero => intro v2 v3 I R r0 r1 r2 hf; exact absurd hf (by unfold l_Md_looksFrom_55; exact fun h9 => by cases h9)
  | succ k ih =>
    intro v2 v3 I R r0 r1 r2 hf K ls hl H locs h
    unfold l_Md_looksFrom_55 at hf
    refine lv_iload_n hx hb d_Md_looksFrom_55 rfl (lv_at hl 2 rfl) ?_
    refine lv_sipush (v := 128) hx hb d_Md_looksFrom_56 (by decide) ?_
    refine lv_icmp_ge (tgt := 108) hx hb d_Md_looksFrom_59 (by decide) (fun hc => ?_) (fun hc => ?_)
    · have hf := op_t hc hf
      obtain ⟨rfl, rfl, rfl⟩ := op_i3 hf
      exact K ls (lv_sub hl [0, 1] rfl) H locs h
    · have hf := op_f hc hf
      refine lv_aload_n hx hb d_Md_looksFrom_62 rfl (lv_at hl 0 rfl) ?_
      refine mg_14 C h d_Md_looksFrom_63 ?_
      refine lv_iload_n hx hb d_Md_looksFrom_66 rfl (lv_at hl 2 rfl) ?_
      obtain ⟨h7, hf⟩ := op_if hf
      refine ma_14 C h rfl h7 d_Md_looksFrom_67 ?_
      refine lv_ldc (v := 1000000) hx hb hown (hT _ ko_Md_176) d_Md_looksFrom_68 ?_
      obtain ⟨⟨x9, I10, R11⟩, he, hf⟩ := op_bind hf
      try dsimp only at hf
      have K8 : ∀ (ls : Array Slot), lv_has ls 4 [(0, .ref (ad 0)), (3, .int v3)] → ∀ (H : Heap) (locs : List Loc), mH A s.heap dC dI ad cI cZ I10 R11 H locs → W p l e (rL 7) s m args below meth c H locs 0 0 Q (F0 m 101 ls [.int x9]) := by
        intro ls hl H locs h
        refine lv_istore_n (lv' := [(2, .int x9), (0, .ref (ad 0)), (3, .int v3)]) hx hb d_Md_looksFrom_101 rfl hl (by decide) rfl (fun ls hl => ?_)
        refine lv_iinc (v := (v3 + 1)) (lv' := [(3, .int (v3 + 1)), (2, .int x9), (0, .ref (ad 0))]) hx hb d_Md_looksFrom_102 hl (k := 2) rfl rfl (by decide) rfl (fun ls hl => ?_)
        refine lv_goto (tgt := 55) hx hb d_Md_looksFrom_105 (by decide) ?_
        exact ih x9 (v3 + 1) I10 R11 _ _ _ hf K ls (lv_sub hl [2, 1, 0] rfl) H locs h
      have hf := he
      refine lv_icmp_lt (tgt := 84) hx hb d_Md_looksFrom_70 (by decide) (fun hc => ?_) (fun hc => ?_)
      · have hf := op_t hc hf
        refine lv_aload_n hx hb d_Md_looksFrom_84 rfl (lv_at hl 0 rfl) ?_
        refine lv_iload_n hx hb d_Md_looksFrom_85 rfl (lv_at hl 2 rfl) ?_
        obtain ⟨⟨x15, I13, R14⟩, hc12, hf⟩ := op_bind hf
        try dsimp only at hf
        refine kc_i (rest := []) C h hA (c_Md_comesCloser l n v3 I R) hc12 (cbW 1 hT cd_Md_comesCloser rfl rfl ini_Md ml_Md_177 hd_Md_comesCloser ⟨Nat.le_of_ble_eq_true rfl, Nat.le_of_ble_eq_true rfl⟩) im_Md_comesCloser sp_Md_comesCloser rfl hl.1 rfl (Nat.le_of_ble_eq_true rfl) d_Md_looksFrom_86 ⟨Nat.zero_le _, Nat.zero_le _⟩ (fun H locs h => ?_)
        refine lv_if_ne (tgt := 96) hx hb d_Md_looksFrom_89 (by decide) (fun hc => ?_) (fun hc => ?_)
        · have hf := op_f hc hf
          refine lv_iconst (v := 1) hx hb d_Md_looksFrom_96 (by decide) ?_
          refine lv_goto (tgt := 101) hx hb d_Md_looksFrom_97 (by decide) ?_
          obtain ⟨rfl, rfl, rfl⟩ := op_i3 hf
          exact K8 ls (lv_sub hl [0, 2] rfl) H locs h
        · have hf := op_t hc hf
          refine lv_iload_n hx hb d_Md_looksFrom_92 rfl (lv_at hl 1 rfl) ?_
          refine lv_if_eq (tgt := 100) hx hb d_Md_looksFrom_93 (by decide) (fun hc => ?_) (fun hc => ?_)
          · have hf := op_t hc hf
            refine lv_iconst (v := 0) hx hb d_Md_looksFrom_100 (by decide) ?_
            obtain ⟨rfl, rfl, rfl⟩ := op_i3 hf
            exact K8 ls (lv_sub hl [0, 2] rfl) H locs h
          · have hf := op_f hc hf
            refine lv_iconst (v := 1) hx hb d_Md_looksFrom_96 (by decide) ?_
            refine lv_goto (tgt := 101) hx hb d_Md_looksFrom_97 (by decide) ?_
            obtain ⟨rfl, rfl, rfl⟩ := op_i3 hf
            exact K8 ls (lv_sub hl [0, 2] rfl) H locs h
      · have hf := op_f hc hf
        refine lv_aload_n hx hb d_Md_looksFrom_73 rfl (lv_at hl 0 rfl) ?_
        refine mg_15 C h d_Md_looksFrom_74 ?_
        refine lv_iload_n hx hb d_Md_looksFrom_77 rfl (lv_at hl 2 rfl) ?_
        obtain ⟨h16, hf⟩ := op_if hf
        refine ma_15 C h rfl h16 d_Md_looksFrom_78 ?_
        refine lv_ldc (v := 1000000) hx hb hown (hT _ ko_Md_176) d_Md_looksFrom_79 ?_
        refine lv_icmp_ge (tgt := 92) hx hb d_Md_looksFrom_81 (by decide) (fun hc => ?_) (fun hc => ?_)
        · have hf := op_t hc hf
          refine lv_iload_n hx hb d_Md_looksFrom_92 rfl (lv_at hl 1 rfl) ?_
          refine lv_if_eq (tgt := 100) hx hb d_Md_looksFrom_93 (by decide) (fun hc => ?_) (fun hc => ?_)
          · have hf := op_t hc hf
            refine lv_iconst (v := 0) hx hb d_Md_looksFrom_100 (by decide) ?_
            obtain ⟨rfl, rfl, rfl⟩ := op_i3 hf
            exact K8 ls (lv_sub hl [0, 2] rfl) H locs h
          · have hf := op_f hc hf
            refine lv_iconst (v := 1) hx hb d_Md_looksFrom_96 (by decide) ?_
            refine lv_goto (tgt := 101) hx hb d_Md_looksFrom_97 (by decide) ?_
            obtain ⟨rfl, rfl, rfl⟩ := op_i3 hf
            exact K8 ls (lv_sub hl [0, 2] rfl) H locs h
        · have hf := op_f hc hf
          refine lv_aload_n hx hb d_Md_looksFrom_84 rfl (lv_at hl 0 rfl) ?_
          refine lv_iload_n hx hb d_Md_looksFrom_85 rfl (lv_at hl 2 rfl) ?_
          obtain ⟨⟨x20, I18, R19⟩, hc17, hf⟩ := op_bind hf
          try dsimp only at hf
          refine kc_i (rest := []) C h hA (c_Md_comesCloser l n v3 I R) hc17 (cbW 1 hT cd_Md_comesCloser rfl rfl ini_Md ml_Md_177 hd_Md_comesCloser ⟨Nat.le_of_ble_eq_true rfl, Nat.le_of_ble_eq_true rfl⟩) im_Md_comesCloser sp_Md_comesCloser rfl hl.1 rfl (Nat.le_of_ble_eq_true rfl) d_Md_looksFrom_86 ⟨Nat.zero_le _, Nat.zero_le _⟩ (fun H locs h => ?_)
          refine lv_if_ne (tgt := 96) hx hb d_Md_looksFrom_89 (by decide) (fun hc => ?_) (fun hc => ?_)
          · have hf := op_f hc hf
            refine lv_iconst (v := 1) hx hb d_Md_looksFrom_96 (by decide) ?_
            refine lv_goto (tgt := 101) hx hb d_Md_looksFrom_97 (by decide) ?_
            obtain ⟨rfl, rfl, rfl⟩ := op_i3 hf
            exact K8 ls (lv_sub hl [0, 2] rfl) H locs h
          · have hf := op_t hc hf
            refine lv_iload_n hx hb d_Md_looksFrom_92 rfl (lv_at hl 1 rfl) ?_
            refine lv_if_eq (tgt := 100) hx hb d_Md_looksFrom_93 (by decide) (fun hc => ?_) (fun hc => ?_)
            · have hf := op_t hc hf
              refine lv_iconst (v := 0) hx hb d_Md_looksFrom_100 (by decide) ?_
              obtain ⟨rfl, rfl, rfl⟩ := op_i3 hf
              exact K8 ls (lv_sub hl [0, 2] rfl) H locs h
            · have hf := op_f hc hf
              refine lv_iconst (v := 1) hx hb d_Md_looksFrom_96 (by decide) ?_
              refine lv_goto (tgt := 101) hx hb d_Md_looksFrom_97 (by decide) ?_
              obtain ⟨rfl, rfl, rfl⟩ := op_i3 hf
              exact K8 ls (lv_sub hl [0, 2] rfl) H locs h
def l_Md_looksFrom_47 (n : Nat)    : Nat → Int32 → (Nat → Int32) → (Nat → Nat → Int32) → Option ((Nat → Int32) × (Nat → Nat → Int32))
  | 0, _, _, _ => none
  | k + 1, v2, I, R => (if v2 = 0 then some (I, R) else (l_Md_looksFrom_55 n n 0 0 I R).bind fun (y21, I22, R23) => l_Md_looksFrom_47 n k y21 I22 R23)
set_option maxHeartbeats 4000000 in
theorem wl_Md_looksFrom_47 {Q : State → Prop}  {p : Program} {l : Launch} {e : Env} {s : State} {m : MethodId} {args : Array Value} {below : List Frame} {meth : Method} {c : Code} {dC : Nat → ClassId} {dI : Nat → Nat → Nat} {ad : Nat → Nat} {cI cZ : ClassId} {A : Nat → Prop} {adK adV : Nat → Nat} (C : mC p s m args c b_Md_looksFrom 4 dC dI cI cZ A adK adV) (hA : ∀ q, s.heap.size ≤ q → A q) (hr : meth.sig.returnType = none) (hlk : meth.locks = false) (n : Nat)    : ∀ (k : Nat) (v2 : Int32) (I : Nat → Int32) (R : Nat → Nat → Int32) (r0 : Nat → Int32) (r1 : Nat → Nat → Int32), l_Md_looksFrom_47 n k v2 I R = some (r0, r1) → (∀ (ls : Array Slot), lv_has ls 4 [] → ∀ (H : Heap) (locs : List Loc), mH A s.heap dC dI ad cI cZ r0 r1 H locs → W p l e (rL 7) s m args below meth c H locs 0 0 Q (F0 m 111 ls [])) → ∀ (ls : Array Slot), lv_has ls 4 [(0, .ref (ad 0)), (2, .int v2)] → ∀ (H : Heap) (locs : List Loc), mH A s.heap dC dI ad cI cZ I R H locs → W p l e (rL 7) s m args below meth c H locs 0 0 Q (F0 m 47 ls []) := by
  obtain ⟨hx, hb, hml, hown, hT, -⟩ := id C
  intro k
  induction k with
  | zero => intro v2 I R r0 r1 hf; exact absurd hf (by unfold l_Md_looksFrom_47; exact fun h9 => by cases h9)
  | succ k ih =>
    intro v2 I R r0 r1 hf K ls hl H locs h
    unfold l_Md_looksFrom_47 at hf
    refine lv_iload_n hx hb d_Md_looksFrom_47 rfl (lv_at hl 1 rfl) ?_
    refine lv_if_eq (tgt := 111) hx hb d_Md_looksFrom_48 (by decide) (fun hc => ?_) (fun hc => ?_)
    · have hf := op_t hc hf
      obtain ⟨rfl, rfl⟩ := op_i2 hf
      exact K ls (lv_sub hl [] rfl) H locs h
    · have hf := op_f hc hf
      refine lv_iconst (v := 0) hx hb d_Md_looksFrom_51 (by decide) ?_
      refine lv_istore_n (lv' := [(2, .int 0), (0, .ref (ad 0))]) hx hb d_Md_looksFrom_52 rfl hl (by decide) rfl (fun ls hl => ?_)
      refine lv_iconst (v := 0) hx hb d_Md_looksFrom_53 (by decide) ?_
      refine lv_istore_n (lv' := [(3, .int 0), (2, .int 0), (0, .ref (ad 0))]) hx hb d_Md_looksFrom_54 rfl hl (by decide) rfl (fun ls hl => ?_)
      obtain ⟨⟨y21, I22, R23⟩, he, hf⟩ := op_bind hf
      try dsimp only at hf
      refine wl_Md_looksFrom_55 C hA hr hlk n  n 0 0 I R _ _ _ he (fun ls hl H locs h => ?_) ls (lv_sub hl [2, 1, 0] rfl) H locs h
      refine lv_goto (tgt := 47) hx hb d_Md_looksFrom_108 (by decide) ?_
      exact ih y21 I22 R23 _ _ hf K ls (lv_sub hl [0, 1] rfl) H locs h
def p_Md_looksFrom (n : Nat) (v1 : Int32) (I : Nat → Int32) (R : Nat → Nat → Int32) : Option (MU) := (l_Md_looksFrom_2 n v1 n 0 I R).bind fun (I3, R4) => if ix v1 128 then if ix v1 128 then (l_Md_looksFrom_47 n n 1 I3 (upR (upR R4 14 v1.toNatClampNeg 0) 15 v1.toNatClampNeg 0)).bind fun (I24, R25) => some (I24, R25) else none else none
set_option maxHeartbeats 4000000 in
theorem c_Md_looksFrom (l : Launch) (n : Nat) (v1 : Int32) (I : Nat → Int32) (R : Nat → Nat → Int32)  : MMv l y_Md_looksFrom b_Md_looksFrom 4 (rL 7) (fun ad adK => [.int v1]) I R (p_Md_looksFrom n v1 I R) := by
  refine en_mv (by decide) rfl (fun _ _ => Nat.le_of_ble_eq_true rfl) ?_
  intro z hf p e s m args below meth c dC dI ad cI cZ A adK adV ls C hA h hr hlk hl
  have hl : lv_has ls 4 [(0, .ref (ad 0)), (1, .int v1)] := hl
  unfold p_Md_looksFrom at hf
  obtain ⟨hx, hb, hml, hown, hT, -⟩ := id C
  refine lv_iconst (v := 0) hx hb d_Md_looksFrom_0 (by decide) ?_
  refine lv_istore_n (lv' := [(2, .int 0), (0, .ref (ad 0)), (1, .int v1)]) hx hb d_Md_looksFrom_1 rfl hl (by decide) rfl (fun ls hl => ?_)
  obtain ⟨⟨I3, R4⟩, he, hf⟩ := op_bind hf
  try dsimp only at hf
  refine wl_Md_looksFrom_2 C hA hr hlk n v1 n 0 I R _ _ he (fun ls hl H locs h => ?_) ls (lv_sub hl [1, 2, 0] rfl) s.heap [] h
  refine lv_aload_n hx hb d_Md_looksFrom_31 rfl (lv_at hl 0 rfl) ?_
  refine mg_14 C h d_Md_looksFrom_32 ?_
  refine lv_iload_n hx hb d_Md_looksFrom_35 rfl (lv_at hl 1 rfl) ?_
  refine lv_iconst (v := 0) hx hb d_Md_looksFrom_36 (by decide) ?_
  obtain ⟨h5, hf⟩ := op_if hf
  refine ms_14 C h rfl h5 d_Md_looksFrom_37 (fun H locs h => ?_)
  refine lv_aload_n hx hb d_Md_looksFrom_38 rfl (lv_at hl 0 rfl) ?_
  refine mg_15 C h d_Md_looksFrom_39 ?_
  refine lv_iload_n hx hb d_Md_looksFrom_42 rfl (lv_at hl 1 rfl) ?_
  refine lv_iconst (v := 0) hx hb d_Md_looksFrom_43 (by decide) ?_
  obtain ⟨h6, hf⟩ := op_if hf
  refine ms_15 C h rfl h6 d_Md_looksFrom_44 (fun H locs h => ?_)
  refine lv_iconst (v := 1) hx hb d_Md_looksFrom_45 (by decide) ?_
  refine lv_istore_n (lv' := [(2, .int 1), (0, .ref (ad 0)), (1, .int v1)]) hx hb d_Md_looksFrom_46 rfl hl (by decide) rfl (fun ls hl => ?_)
  obtain ⟨⟨I24, R25⟩, he, hf⟩ := op_bind hf
  try dsimp only at hf
  refine wl_Md_looksFrom_47 C hA hr hlk n  n 1 I3 (upR (upR R4 14 v1.toNatClampNeg 0) 15 v1.toNatClampNeg 0) _ _ he (fun ls hl H locs h => ?_) ls (lv_sub hl [1, 0] rfl) H locs h
  exact rt_mv C h hr hlk hf d_Md_looksFrom_111
theorem hd_Md_looksToward : y_Md_looksToward.cls ≠ "java/lang/invoke/MethodHandle" ∧ y_Md_looksToward.cls ≠ "java/lang/invoke/VarHandle" ∧ (parseMethodDescriptor y_Md_looksToward.desc).map (fun d => d.parameters.length) = some 1 := by decide +kernel
theorem d_Md_looksToward_0 : decode b_Md_looksToward 0 = .ok (.iconst 0, 1) := by decide +kernel
theorem d_Md_looksToward_1 : decode b_Md_looksToward 1 = .ok (.istore_n 2, 1) := by decide +kernel
theorem d_Md_looksToward_2 : decode b_Md_looksToward 2 = .ok (.iload_n 2, 1) := by decide +kernel
theorem d_Md_looksToward_3 : decode b_Md_looksToward 3 = .ok (.sipush 128, 3) := by decide +kernel
theorem d_Md_looksToward_6 : decode b_Md_looksToward 6 = .ok (.if_icmp .ge 31, 3) := by decide +kernel
theorem d_Md_looksToward_9 : decode b_Md_looksToward 9 = .ok (.aload_n 0, 1) := by decide +kernel
theorem d_Md_looksToward_10 : decode b_Md_looksToward 10 = .ok (.getfield 34, 3) := by decide +kernel
theorem d_Md_looksToward_13 : decode b_Md_looksToward 13 = .ok (.iload_n 2, 1) := by decide +kernel
theorem d_Md_looksToward_14 : decode b_Md_looksToward 14 = .ok (.iload_n 2, 1) := by decide +kernel
theorem d_Md_looksToward_15 : decode b_Md_looksToward 15 = .ok (.bipush 64, 2) := by decide +kernel
theorem d_Md_looksToward_17 : decode b_Md_looksToward 17 = .ok (.irem, 1) := by decide +kernel
theorem d_Md_looksToward_18 : decode b_Md_looksToward 18 = .ok (.iload_n 1, 1) := by decide +kernel
theorem d_Md_looksToward_19 : decode b_Md_looksToward 19 = .ok (.iand, 1) := by decide +kernel
theorem d_Md_looksToward_20 : decode b_Md_looksToward 20 = .ok (.iload_n 1, 1) := by decide +kernel
theorem d_Md_looksToward_21 : decode b_Md_looksToward 21 = .ok (.if_icmp .ne 7, 3) := by decide +kernel
theorem d_Md_looksToward_24 : decode b_Md_looksToward 24 = .ok (.iconst 0, 1) := by decide +kernel
theorem d_Md_looksToward_25 : decode b_Md_looksToward 25 = .ok (.goto 5, 3) := by decide +kernel
theorem d_Md_looksToward_28 : decode b_Md_looksToward 28 = .ok (.ldc 176, 2) := by decide +kernel
theorem d_Md_looksToward_30 : decode b_Md_looksToward 30 = .ok (.iastore, 1) := by decide +kernel
theorem d_Md_looksToward_31 : decode b_Md_looksToward 31 = .ok (.iinc 2 1, 3) := by decide +kernel
theorem d_Md_looksToward_34 : decode b_Md_looksToward 34 = .ok (.goto (-32), 3) := by decide +kernel
theorem d_Md_looksToward_37 : decode b_Md_looksToward 37 = .ok (.iconst 1, 1) := by decide +kernel
theorem d_Md_looksToward_38 : decode b_Md_looksToward 38 = .ok (.istore_n 2, 1) := by decide +kernel
theorem d_Md_looksToward_39 : decode b_Md_looksToward 39 = .ok (.iload_n 2, 1) := by decide +kernel
theorem d_Md_looksToward_40 : decode b_Md_looksToward 40 = .ok (.ifCond .eq 52, 3) := by decide +kernel
theorem d_Md_looksToward_43 : decode b_Md_looksToward 43 = .ok (.iconst 0, 1) := by decide +kernel
theorem d_Md_looksToward_44 : decode b_Md_looksToward 44 = .ok (.istore_n 2, 1) := by decide +kernel
theorem d_Md_looksToward_45 : decode b_Md_looksToward 45 = .ok (.iconst 0, 1) := by decide +kernel
theorem d_Md_looksToward_46 : decode b_Md_looksToward 46 = .ok (.istore_n 3, 1) := by decide +kernel
theorem d_Md_looksToward_47 : decode b_Md_looksToward 47 = .ok (.iload_n 3, 1) := by decide +kernel
theorem d_Md_looksToward_48 : decode b_Md_looksToward 48 = .ok (.sipush 128, 3) := by decide +kernel
theorem d_Md_looksToward_51 : decode b_Md_looksToward 51 = .ok (.if_icmp .ge 38, 3) := by decide +kernel
theorem d_Md_looksToward_54 : decode b_Md_looksToward 54 = .ok (.iload_n 3, 1) := by decide +kernel
theorem d_Md_looksToward_55 : decode b_Md_looksToward 55 = .ok (.bipush 64, 2) := by decide +kernel
theorem d_Md_looksToward_57 : decode b_Md_looksToward 57 = .ok (.irem, 1) := by decide +kernel
theorem d_Md_looksToward_58 : decode b_Md_looksToward 58 = .ok (.aload_n 0, 1) := by decide +kernel
theorem d_Md_looksToward_59 : decode b_Md_looksToward 59 = .ok (.invokevirtual 48, 3) := by decide +kernel
theorem d_Md_looksToward_62 : decode b_Md_looksToward 62 = .ok (.if_icmp .gt 11, 3) := by decide +kernel
theorem d_Md_looksToward_65 : decode b_Md_looksToward 65 = .ok (.aload_n 0, 1) := by decide +kernel
theorem d_Md_looksToward_66 : decode b_Md_looksToward 66 = .ok (.iload_n 3, 1) := by decide +kernel
theorem d_Md_looksToward_67 : decode b_Md_looksToward 67 = .ok (.invokevirtual 202, 3) := by decide +kernel
theorem d_Md_looksToward_70 : decode b_Md_looksToward 70 = .ok (.ifCond .ne 7, 3) := by decide +kernel
theorem d_Md_looksToward_73 : decode b_Md_looksToward 73 = .ok (.iload_n 2, 1) := by decide +kernel
theorem d_Md_looksToward_74 : decode b_Md_looksToward 74 = .ok (.ifCond .eq 7, 3) := by decide +kernel
theorem d_Md_looksToward_77 : decode b_Md_looksToward 77 = .ok (.iconst 1, 1) := by decide +kernel
theorem d_Md_looksToward_78 : decode b_Md_looksToward 78 = .ok (.goto 4, 3) := by decide +kernel
theorem d_Md_looksToward_81 : decode b_Md_looksToward 81 = .ok (.iconst 0, 1) := by decide +kernel
theorem d_Md_looksToward_82 : decode b_Md_looksToward 82 = .ok (.istore_n 2, 1) := by decide +kernel
theorem d_Md_looksToward_83 : decode b_Md_looksToward 83 = .ok (.iinc 3 1, 3) := by decide +kernel
theorem d_Md_looksToward_86 : decode b_Md_looksToward 86 = .ok (.goto (-39), 3) := by decide +kernel
theorem d_Md_looksToward_89 : decode b_Md_looksToward 89 = .ok (.goto (-50), 3) := by decide +kernel
theorem d_Md_looksToward_92 : decode b_Md_looksToward 92 = .ok (.return_, 1) := by decide +kernel
def l_Md_looksToward_2 (n : Nat)  (v1 : Int32)  : Nat → Int32 → (Nat → Int32) → (Nat → Nat → Int32) → Option ((Nat → Int32) × (Nat → Nat → Int32))
  | 0, _, _, _ => none
  | k + 1, v2, I, R => (if 128 ≤ v2 then some (I, R) else (if ((v2 - v2 / 64 * 64) &&& v1) = v1 then some 0 else some 1000000 : Option (Int32)).bind fun x2 => if ix v2 128 then l_Md_looksToward_2 n v1 k (v2 + 1) I (upR R 16 v2.toNatClampNeg x2) else none)
set_option maxHeartbeats 4000000 in
theorem wl_Md_looksToward_2 {Q : State → Prop}  {p : Program} {l : Launch} {e : Env} {s : State} {m : MethodId} {args : Array Value} {below : List Frame} {meth : Method} {c : Code} {dC : Nat → ClassId} {dI : Nat → Nat → Nat} {ad : Nat → Nat} {cI cZ : ClassId} {A : Nat → Prop} {adK adV : Nat → Nat} (C : mC p s m args c b_Md_looksToward 4 dC dI cI cZ A adK adV) (hA : ∀ q, s.heap.size ≤ q → A q) (hr : meth.sig.returnType = none) (hlk : meth.locks = false) (n : Nat)  (v1 : Int32)  : ∀ (k : Nat) (v2 : Int32) (I : Nat → Int32) (R : Nat → Nat → Int32) (r0 : Nat → Int32) (r1 : Nat → Nat → Int32), l_Md_looksToward_2 n v1 k v2 I R = some (r0, r1) → (∀ (ls : Array Slot), lv_has ls 4 [(0, .ref (ad 0))] → ∀ (H : Heap) (locs : List Loc), mH A s.heap dC dI ad cI cZ r0 r1 H locs → W p l e (rL 7) s m args below meth c H locs 0 0 Q (F0 m 37 ls [])) → ∀ (ls : Array Slot), lv_has ls 4 [(0, .ref (ad 0)), (1, .int v1), (2, .int v2)] → ∀ (H : Heap) (locs : List Loc), mH A s.heap dC dI ad cI cZ I R H locs → W p l e (rL 7) s m args below meth c H locs 0 0 Q (F0 m 2 ls []) := by
  obtain ⟨hx, hb, hml, hown, hT, -⟩ := id C
  intro k
  induction k with
  | zero => intro v2 I R r0 r1 hf; exact absurd hf (by unfold l_Md_looksToward_2; exact fun h9 => by cases h9)
  | succ k ih =>
    intro v2 I R r0 r1 hf K ls hl H locs h
    unfold l_Md_looksToward_2 at hf
    refine lv_iload_n hx hb d_Md_looksToward_2 rfl (lv_at hl 2 rfl) ?_
    refine lv_sipush (v := 128) hx hb d_Md_looksToward_3 (by decide) ?_
    refine lv_icmp_ge (tgt := 37) hx hb d_Md_looksToward_6 (by decide) (fun hc => ?_) (fun hc => ?_)
    · have hf := op_t hc hf
      obtain ⟨rfl, rfl⟩ := op_i2 hf
      exact K ls (lv_sub hl [0] rfl) H locs h
    · have hf := op_f hc hf
      refine lv_aload_n hx hb d_Md_looksToward_9 rfl (lv_at hl 0 rfl) ?_
      refine mg_16 C h d_Md_looksToward_10 ?_
      refine lv_iload_n hx hb d_Md_looksToward_13 rfl (lv_at hl 2 rfl) ?_
      refine lv_iload_n hx hb d_Md_looksToward_14 rfl (lv_at hl 2 rfl) ?_
      refine lv_bipush (v := 64) hx hb d_Md_looksToward_15 (by decide) ?_
      refine lv_irem hx hb d_Md_looksToward_17 (by decide) ?_
      refine lv_iload_n hx hb d_Md_looksToward_18 rfl (lv_at hl 1 rfl) ?_
      refine lv_iand hx hb d_Md_looksToward_19 ?_
      refine lv_iload_n hx hb d_Md_looksToward_20 rfl (lv_at hl 1 rfl) ?_
      obtain ⟨x2, he, hf⟩ := op_bind hf
      have K1 : ∀ (ls : Array Slot), lv_has ls 4 [(0, .ref (ad 0)), (1, .int v1), (2, .int v2)] → ∀ (H : Heap) (locs : List Loc), mH A s.heap dC dI ad cI cZ I R H locs → W p l e (rL 7) s m args below meth c H locs 0 0 Q (F0 m 30 ls [.int x2, .int v2, .ref (ad 16)]) := by
        intro ls hl H locs h
        obtain ⟨h3, hf⟩ := op_if hf
        refine ms_16 C h rfl h3 d_Md_looksToward_30 (fun H locs h => ?_)
        refine lv_iinc (v := (v2 + 1)) (lv' := [(2, .int (v2 + 1)), (0, .ref (ad 0)), (1, .int v1)]) hx hb d_Md_looksToward_31 hl (k := 2) rfl rfl (by decide) rfl (fun ls hl => ?_)
        refine lv_goto (tgt := 2) hx hb d_Md_looksToward_34 (by decide) ?_
        exact ih (v2 + 1) I (upR R 16 v2.toNatClampNeg x2) _ _ hf K ls (lv_sub hl [1, 2, 0] rfl) H locs h
      have hf := he
      refine lv_icmp_ne (tgt := 28) hx hb d_Md_looksToward_21 (by decide) (fun hc => ?_) (fun hc => ?_)
      · have hf := op_f hc hf
        refine lv_ldc (v := 1000000) hx hb hown (hT _ ko_Md_176) d_Md_looksToward_28 ?_
        obtain rfl := op_i1 hf
        exact K1 ls (lv_sub hl [0, 1, 2] rfl) H locs h
      · have hf := op_t hc hf
        refine lv_iconst (v := 0) hx hb d_Md_looksToward_24 (by decide) ?_
        refine lv_goto (tgt := 30) hx hb d_Md_looksToward_25 (by decide) ?_
        obtain rfl := op_i1 hf
        exact K1 ls (lv_sub hl [0, 1, 2] rfl) H locs h
def l_Md_looksToward_47 (n : Nat)    : Nat → Int32 → Int32 → (Nat → Int32) → (Nat → Nat → Int32) → Option (Int32 × (Nat → Int32) × (Nat → Nat → Int32))
  | 0, _, _, _, _ => none
  | k + 1, v2, v3, I, R => (if 128 ≤ v3 then some (v2, I, R) else (p_Md_all n I R).bind fun x7 => (if x7 < (v3 - v3 / 64 * 64) then (if v2 = 0 then some (0, I, R) else some (1, I, R)) else (p_Md_isCloser n v3 I R).bind fun (x15, I13, R14) => (if x15 = 0 then (if v2 = 0 then some (0, I13, R14) else some (1, I13, R14)) else some (1, I13, R14)) : Option (Int32 × (Nat → Int32) × (Nat → Nat → Int32))).bind fun (x9, I10, R11) => l_Md_looksToward_47 n k x9 (v3 + 1) I10 R11)
set_option maxHeartbeats 4000000 in
theorem wl_Md_looksToward_47 {Q : State → Prop}  {p : Program} {l : Launch} {e : Env} {s : State} {m : MethodId} {args : Array Value} {below : List Frame} {meth : Method} {c : Code} {dC : Nat → ClassId} {dI : Nat → Nat → Nat} {ad : Nat → Nat} {cI cZ : ClassId} {A : Nat → Prop} {adK adV : Nat → Nat} (C : mC p s m args c b_Md_looksToward 4 dC dI cI cZ A adK adV) (hA : ∀ q, s.heap.size ≤ q → A q) (hr : meth.sig.returnType = none) (hlk : meth.locks = false) (n : Nat)    : ∀ (k : Nat) (v2 : Int32) (v3 : Int32) (I : Nat → Int32) (R : Nat → Nat → Int32) (r0 : Int32) (r1 : Nat → Int32) (r2 : Nat → Nat → Int32), l_Md_looksToward_47 n k v2 v3 I R = some (r0, r1, r2) → (∀ (ls : Array Slot), lv_has ls 4 [(0, .ref (ad 0)), (2, .int r0)] → ∀ (H : Heap) (locs : List Loc), mH A s.heap dC dI ad cI cZ r1 r2 H locs → W p l e (rL 7) s m args below meth c H locs 0 0 Q (F0 m 89 ls [])) → ∀ (ls : Array Slot), lv_has ls 4 [(0, .ref (ad 0)), (2, .int v2), (3, .int v3)] → ∀ (H : Heap) (locs : List Loc), mH A s.heap dC dI ad cI cZ I R H locs → W p l e (rL 7) s m args below meth c H locs 0 0 Q (F0 m 47 ls []) := by
  obtain ⟨hx, hb, hml, hown, hT, -⟩ := id C
  intro k
  induction k with
  | zero => intro v2 v3 I R r0 r1 r2 hf; exact absurd hf (by unfold l_Md_looksToward_47; exact fun h9 => by cases h9)
  | succ k ih =>
    intro v2 v3 I R r0 r1 r2 hf K ls hl H locs h
    unfold l_Md_looksToward_47 at hf
    refine lv_iload_n hx hb d_Md_looksToward_47 rfl (lv_at hl 2 rfl) ?_
    refine lv_sipush (v := 128) hx hb d_Md_looksToward_48 (by decide) ?_
    refine lv_icmp_ge (tgt := 89) hx hb d_Md_looksToward_51 (by decide) (fun hc => ?_) (fun hc => ?_)
    · have hf := op_t hc hf
      obtain ⟨rfl, rfl, rfl⟩ := op_i3 hf
      exact K ls (lv_sub hl [0, 1] rfl) H locs h
    · have hf := op_f hc hf
      refine lv_iload_n hx hb d_Md_looksToward_54 rfl (lv_at hl 2 rfl) ?_
      refine lv_bipush (v := 64) hx hb d_Md_looksToward_55 (by decide) ?_
      refine lv_irem hx hb d_Md_looksToward_57 (by decide) ?_
      refine lv_aload_n hx hb d_Md_looksToward_58 rfl (lv_at hl 0 rfl) ?_
      obtain ⟨x7, hc6, hf⟩ := op_bind hf
      refine kc_r (rest := [.int (v3 - v3 / 64 * 64)]) C h hA (c_Md_all l n I R) hc6 (cbW 0 hT cd_Md_all rfl rfl ini_Md ml_Md_48 hd_Md_all ⟨Nat.le_of_ble_eq_true rfl, Nat.le_of_ble_eq_true rfl⟩) im_Md_all sp_Md_all rfl hl.1 rfl (Nat.le_of_ble_eq_true rfl) d_Md_looksToward_59 ⟨Nat.zero_le _, Nat.zero_le _⟩ (fun H locs h => ?_)
      obtain ⟨⟨x9, I10, R11⟩, he, hf⟩ := op_bind hf
      try dsimp only at hf
      have K8 : ∀ (ls : Array Slot), lv_has ls 4 [(0, .ref (ad 0)), (3, .int v3)] → ∀ (H : Heap) (locs : List Loc), mH A s.heap dC dI ad cI cZ I10 R11 H locs → W p l e (rL 7) s m args below meth c H locs 0 0 Q (F0 m 82 ls [.int x9]) := by
        intro ls hl H locs h
        refine lv_istore_n (lv' := [(2, .int x9), (0, .ref (ad 0)), (3, .int v3)]) hx hb d_Md_looksToward_82 rfl hl (by decide) rfl (fun ls hl => ?_)
        refine lv_iinc (v := (v3 + 1)) (lv' := [(3, .int (v3 + 1)), (2, .int x9), (0, .ref (ad 0))]) hx hb d_Md_looksToward_83 hl (k := 2) rfl rfl (by decide) rfl (fun ls hl => ?_)
        refine lv_goto (tgt := 47) hx hb d_Md_looksToward_86 (by decide) ?_
        exact ih x9 (v3 + 1) I10 R11 _ _ _ hf K ls (lv_sub hl [2, 1, 0] rfl) H locs h
      have hf := he
      refine lv_icmp_gt (tgt := 73) hx hb d_Md_looksToward_62 (by decide) (fun hc => ?_) (fun hc => ?_)
      · have hf := op_t hc hf
        refine lv_iload_n hx hb d_Md_looksToward_73 rfl (lv_at hl 1 rfl) ?_
        refine lv_if_eq (tgt := 81) hx hb d_Md_looksToward_74 (by decide) (fun hc => ?_) (fun hc => ?_)
        · have hf := op_t hc hf
          refine lv_iconst (v := 0) hx hb d_Md_looksToward_81 (by decide) ?_
          obtain ⟨rfl, rfl, rfl⟩ := op_i3 hf
          exact K8 ls (lv_sub hl [0, 2] rfl) H locs h
        · have hf := op_f hc hf
          refine lv_iconst (v := 1) hx hb d_Md_looksToward_77 (by decide) ?_
          refine lv_goto (tgt := 82) hx hb d_Md_looksToward_78 (by decide) ?_
          obtain ⟨rfl, rfl, rfl⟩ := op_i3 hf
          exact K8 ls (lv_sub hl [0, 2] rfl) H locs h
      · have hf := op_f hc hf
        refine lv_aload_n hx hb d_Md_looksToward_65 rfl (lv_at hl 0 rfl) ?_
        refine lv_iload_n hx hb d_Md_looksToward_66 rfl (lv_at hl 2 rfl) ?_
        obtain ⟨⟨x15, I13, R14⟩, hc12, hf⟩ := op_bind hf
        try dsimp only at hf
        refine kc_i (rest := []) C h hA (c_Md_isCloser l n v3 I R) hc12 (cbW 1 hT cd_Md_isCloser rfl rfl ini_Md ml_Md_202 hd_Md_isCloser ⟨Nat.le_of_ble_eq_true rfl, Nat.le_of_ble_eq_true rfl⟩) im_Md_isCloser sp_Md_isCloser rfl hl.1 rfl (Nat.le_of_ble_eq_true rfl) d_Md_looksToward_67 ⟨Nat.zero_le _, Nat.zero_le _⟩ (fun H locs h => ?_)
        refine lv_if_ne (tgt := 77) hx hb d_Md_looksToward_70 (by decide) (fun hc => ?_) (fun hc => ?_)
        · have hf := op_f hc hf
          refine lv_iconst (v := 1) hx hb d_Md_looksToward_77 (by decide) ?_
          refine lv_goto (tgt := 82) hx hb d_Md_looksToward_78 (by decide) ?_
          obtain ⟨rfl, rfl, rfl⟩ := op_i3 hf
          exact K8 ls (lv_sub hl [0, 2] rfl) H locs h
        · have hf := op_t hc hf
          refine lv_iload_n hx hb d_Md_looksToward_73 rfl (lv_at hl 1 rfl) ?_
          refine lv_if_eq (tgt := 81) hx hb d_Md_looksToward_74 (by decide) (fun hc => ?_) (fun hc => ?_)
          · have hf := op_t hc hf
            refine lv_iconst (v := 0) hx hb d_Md_looksToward_81 (by decide) ?_
            obtain ⟨rfl, rfl, rfl⟩ := op_i3 hf
            exact K8 ls (lv_sub hl [0, 2] rfl) H locs h
          · have hf := op_f hc hf
            refine lv_iconst (v := 1) hx hb d_Md_looksToward_77 (by decide) ?_
            refine lv_goto (tgt := 82) hx hb d_Md_looksToward_78 (by decide) ?_
            obtain ⟨rfl, rfl, rfl⟩ := op_i3 hf
            exact K8 ls (lv_sub hl [0, 2] rfl) H locs h
def l_Md_looksToward_39 (n : Nat)    : Nat → Int32 → (Nat → Int32) → (Nat → Nat → Int32) → Option ((Nat → Int32) × (Nat → Nat → Int32))
  | 0, _, _, _ => none
  | k + 1, v2, I, R => (if v2 = 0 then some (I, R) else (l_Md_looksToward_47 n n 0 0 I R).bind fun (y16, I17, R18) => l_Md_looksToward_39 n k y16 I17 R18)
set_option maxHeartbeats 4000000 in
theorem wl_Md_looksToward_39 {Q : State → Prop}  {p : Program} {l : Launch} {e : Env} {s : State} {m : MethodId} {args : Array Value} {below : List Frame} {meth : Method} {c : Code} {dC : Nat → ClassId} {dI : Nat → Nat → Nat} {ad : Nat → Nat} {cI cZ : ClassId} {A : Nat → Prop} {adK adV : Nat → Nat} (C : mC p s m args c b_Md_looksToward 4 dC dI cI cZ A adK adV) (hA : ∀ q, s.heap.size ≤ q → A q) (hr : meth.sig.returnType = none) (hlk : meth.locks = false) (n : Nat)    : ∀ (k : Nat) (v2 : Int32) (I : Nat → Int32) (R : Nat → Nat → Int32) (r0 : Nat → Int32) (r1 : Nat → Nat → Int32), l_Md_looksToward_39 n k v2 I R = some (r0, r1) → (∀ (ls : Array Slot), lv_has ls 4 [] → ∀ (H : Heap) (locs : List Loc), mH A s.heap dC dI ad cI cZ r0 r1 H locs → W p l e (rL 7) s m args below meth c H locs 0 0 Q (F0 m 92 ls [])) → ∀ (ls : Array Slot), lv_has ls 4 [(0, .ref (ad 0)), (2, .int v2)] → ∀ (H : Heap) (locs : List Loc), mH A s.heap dC dI ad cI cZ I R H locs → W p l e (rL 7) s m args below meth c H locs 0 0 Q (F0 m 39 ls []) := by
  obtain ⟨hx, hb, hml, hown, hT, -⟩ := id C
  intro k
  induction k with
  | zero => intro v2 I R r0 r1 hf; exact absurd hf (by unfold l_Md_looksToward_39; exact fun h9 => by cases h9)
  | succ k ih =>
    intro v2 I R r0 r1 hf K ls hl H locs h
    unfold l_Md_looksToward_39 at hf
    refine lv_iload_n hx hb d_Md_looksToward_39 rfl (lv_at hl 1 rfl) ?_
    refine lv_if_eq (tgt := 92) hx hb d_Md_looksToward_40 (by decide) (fun hc => ?_) (fun hc => ?_)
    · have hf := op_t hc hf
      obtain ⟨rfl, rfl⟩ := op_i2 hf
      exact K ls (lv_sub hl [] rfl) H locs h
    · have hf := op_f hc hf
      refine lv_iconst (v := 0) hx hb d_Md_looksToward_43 (by decide) ?_
      refine lv_istore_n (lv' := [(2, .int 0), (0, .ref (ad 0))]) hx hb d_Md_looksToward_44 rfl hl (by decide) rfl (fun ls hl => ?_)
      refine lv_iconst (v := 0) hx hb d_Md_looksToward_45 (by decide) ?_
      refine lv_istore_n (lv' := [(3, .int 0), (2, .int 0), (0, .ref (ad 0))]) hx hb d_Md_looksToward_46 rfl hl (by decide) rfl (fun ls hl => ?_)
      obtain ⟨⟨y16, I17, R18⟩, he, hf⟩ := op_bind hf
      try dsimp only at hf
      refine wl_Md_looksToward_47 C hA hr hlk n  n 0 0 I R _ _ _ he (fun ls hl H locs h => ?_) ls (lv_sub hl [2, 1, 0] rfl) H locs h
      refine lv_goto (tgt := 39) hx hb d_Md_looksToward_89 (by decide) ?_
      exact ih y16 I17 R18 _ _ hf K ls (lv_sub hl [0, 1] rfl) H locs h
def p_Md_looksToward (n : Nat) (v1 : Int32) (I : Nat → Int32) (R : Nat → Nat → Int32) : Option (MU) := (l_Md_looksToward_2 n v1 n 0 I R).bind fun (I4, R5) => (l_Md_looksToward_39 n n 1 I4 R5).bind fun (I19, R20) => some (I19, R20)
set_option maxHeartbeats 4000000 in
theorem c_Md_looksToward (l : Launch) (n : Nat) (v1 : Int32) (I : Nat → Int32) (R : Nat → Nat → Int32)  : MMv l y_Md_looksToward b_Md_looksToward 4 (rL 7) (fun ad adK => [.int v1]) I R (p_Md_looksToward n v1 I R) := by
  refine en_mv (by decide) rfl (fun _ _ => Nat.le_of_ble_eq_true rfl) ?_
  intro z hf p e s m args below meth c dC dI ad cI cZ A adK adV ls C hA h hr hlk hl
  have hl : lv_has ls 4 [(0, .ref (ad 0)), (1, .int v1)] := hl
  unfold p_Md_looksToward at hf
  obtain ⟨hx, hb, hml, hown, hT, -⟩ := id C
  refine lv_iconst (v := 0) hx hb d_Md_looksToward_0 (by decide) ?_
  refine lv_istore_n (lv' := [(2, .int 0), (0, .ref (ad 0)), (1, .int v1)]) hx hb d_Md_looksToward_1 rfl hl (by decide) rfl (fun ls hl => ?_)
  obtain ⟨⟨I4, R5⟩, he, hf⟩ := op_bind hf
  try dsimp only at hf
  refine wl_Md_looksToward_2 C hA hr hlk n v1 n 0 I R _ _ he (fun ls hl H locs h => ?_) ls (lv_sub hl [1, 2, 0] rfl) s.heap [] h
  refine lv_iconst (v := 1) hx hb d_Md_looksToward_37 (by decide) ?_
  refine lv_istore_n (lv' := [(2, .int 1), (0, .ref (ad 0))]) hx hb d_Md_looksToward_38 rfl hl (by decide) rfl (fun ls hl => ?_)
  obtain ⟨⟨I19, R20⟩, he, hf⟩ := op_bind hf
  try dsimp only at hf
  refine wl_Md_looksToward_39 C hA hr hlk n  n 1 I4 R5 _ _ he (fun ls hl H locs h => ?_) ls (lv_sub hl [1, 0] rfl) H locs h
  exact rt_mv C h hr hlk hf d_Md_looksToward_92
theorem hd_Md_goesBy : y_Md_goesBy.cls ≠ "java/lang/invoke/MethodHandle" ∧ y_Md_goesBy.cls ≠ "java/lang/invoke/VarHandle" ∧ (parseMethodDescriptor y_Md_goesBy.desc).map (fun d => d.parameters.length) = some 2 := by decide +kernel
theorem d_Md_goesBy_0 : decode b_Md_goesBy 0 = .ok (.iload_n 1, 1) := by decide +kernel
theorem d_Md_goesBy_1 : decode b_Md_goesBy 1 = .ok (.iconst 2, 1) := by decide +kernel
theorem d_Md_goesBy_2 : decode b_Md_goesBy 2 = .ok (.if_icmp .ne 9, 3) := by decide +kernel
theorem d_Md_goesBy_5 : decode b_Md_goesBy 5 = .ok (.aload_n 0, 1) := by decide +kernel
theorem d_Md_goesBy_6 : decode b_Md_goesBy 6 = .ok (.iload_n 2, 1) := by decide +kernel
theorem d_Md_goesBy_7 : decode b_Md_goesBy 7 = .ok (.invokevirtual 208, 3) := by decide +kernel
theorem d_Md_goesBy_10 : decode b_Md_goesBy 10 = .ok (.ireturn, 1) := by decide +kernel
theorem d_Md_goesBy_11 : decode b_Md_goesBy 11 = .ok (.aload_n 0, 1) := by decide +kernel
theorem d_Md_goesBy_12 : decode b_Md_goesBy 12 = .ok (.aload_n 0, 1) := by decide +kernel
theorem d_Md_goesBy_13 : decode b_Md_goesBy 13 = .ok (.invokevirtual 48, 3) := by decide +kernel
theorem d_Md_goesBy_16 : decode b_Md_goesBy 16 = .ok (.iconst 1, 1) := by decide +kernel
theorem d_Md_goesBy_17 : decode b_Md_goesBy 17 = .ok (.invokevirtual 211, 3) := by decide +kernel
theorem d_Md_goesBy_20 : decode b_Md_goesBy 20 = .ok (.istore_n 3, 1) := by decide +kernel
theorem d_Md_goesBy_21 : decode b_Md_goesBy 21 = .ok (.iload_n 3, 1) := by decide +kernel
theorem d_Md_goesBy_22 : decode b_Md_goesBy 22 = .ok (.aload_n 0, 1) := by decide +kernel
theorem d_Md_goesBy_23 : decode b_Md_goesBy 23 = .ok (.aload_n 0, 1) := by decide +kernel
theorem d_Md_goesBy_24 : decode b_Md_goesBy 24 = .ok (.invokevirtual 48, 3) := by decide +kernel
theorem d_Md_goesBy_27 : decode b_Md_goesBy 27 = .ok (.iload_n 3, 1) := by decide +kernel
theorem d_Md_goesBy_28 : decode b_Md_goesBy 28 = .ok (.iconst (-1), 1) := by decide +kernel
theorem d_Md_goesBy_29 : decode b_Md_goesBy 29 = .ok (.ixor, 1) := by decide +kernel
theorem d_Md_goesBy_30 : decode b_Md_goesBy 30 = .ok (.iand, 1) := by decide +kernel
theorem d_Md_goesBy_31 : decode b_Md_goesBy 31 = .ok (.iconst 1, 1) := by decide +kernel
theorem d_Md_goesBy_32 : decode b_Md_goesBy 32 = .ok (.invokevirtual 211, 3) := by decide +kernel
theorem d_Md_goesBy_35 : decode b_Md_goesBy 35 = .ok (.ior, 1) := by decide +kernel
theorem d_Md_goesBy_36 : decode b_Md_goesBy 36 = .ok (.istore 4, 2) := by decide +kernel
theorem d_Md_goesBy_38 : decode b_Md_goesBy 38 = .ok (.aload_n 0, 1) := by decide +kernel
theorem d_Md_goesBy_39 : decode b_Md_goesBy 39 = .ok (.iload_n 2, 1) := by decide +kernel
theorem d_Md_goesBy_40 : decode b_Md_goesBy 40 = .ok (.iconst 0, 1) := by decide +kernel
theorem d_Md_goesBy_41 : decode b_Md_goesBy 41 = .ok (.invokevirtual 211, 3) := by decide +kernel
theorem d_Md_goesBy_44 : decode b_Md_goesBy 44 = .ok (.istore 5, 2) := by decide +kernel
theorem d_Md_goesBy_46 : decode b_Md_goesBy 46 = .ok (.iload_n 1, 1) := by decide +kernel
theorem d_Md_goesBy_47 : decode b_Md_goesBy 47 = .ok (.iconst 1, 1) := by decide +kernel
theorem d_Md_goesBy_48 : decode b_Md_goesBy 48 = .ok (.if_icmp .ne 32, 3) := by decide +kernel
theorem d_Md_goesBy_51 : decode b_Md_goesBy 51 = .ok (.iload_n 2, 1) := by decide +kernel
theorem d_Md_goesBy_52 : decode b_Md_goesBy 52 = .ok (.invokestatic 139, 3) := by decide +kernel
theorem d_Md_goesBy_55 : decode b_Md_goesBy 55 = .ok (.iconst 3, 1) := by decide +kernel
theorem d_Md_goesBy_56 : decode b_Md_goesBy 56 = .ok (.if_icmp .le 24, 3) := by decide +kernel
theorem d_Md_goesBy_59 : decode b_Md_goesBy 59 = .ok (.iload_n 2, 1) := by decide +kernel
theorem d_Md_goesBy_60 : decode b_Md_goesBy 60 = .ok (.iload 4, 2) := by decide +kernel
theorem d_Md_goesBy_62 : decode b_Md_goesBy 62 = .ok (.iand, 1) := by decide +kernel
theorem d_Md_goesBy_63 : decode b_Md_goesBy 63 = .ok (.iload 4, 2) := by decide +kernel
theorem d_Md_goesBy_65 : decode b_Md_goesBy 65 = .ok (.if_icmp .ne 15, 3) := by decide +kernel
theorem d_Md_goesBy_68 : decode b_Md_goesBy 68 = .ok (.iload 4, 2) := by decide +kernel
theorem d_Md_goesBy_70 : decode b_Md_goesBy 70 = .ok (.invokestatic 139, 3) := by decide +kernel
theorem d_Md_goesBy_73 : decode b_Md_goesBy 73 = .ok (.iconst 2, 1) := by decide +kernel
theorem d_Md_goesBy_74 : decode b_Md_goesBy 74 = .ok (.if_icmp .ne 6, 3) := by decide +kernel
theorem d_Md_goesBy_77 : decode b_Md_goesBy 77 = .ok (.iload 4, 2) := by decide +kernel
theorem d_Md_goesBy_79 : decode b_Md_goesBy 79 = .ok (.ireturn, 1) := by decide +kernel
theorem d_Md_goesBy_80 : decode b_Md_goesBy 80 = .ok (.iload_n 1, 1) := by decide +kernel
theorem d_Md_goesBy_81 : decode b_Md_goesBy 81 = .ok (.iconst 1, 1) := by decide +kernel
theorem d_Md_goesBy_82 : decode b_Md_goesBy 82 = .ok (.if_icmp .ne 37, 3) := by decide +kernel
theorem d_Md_goesBy_85 : decode b_Md_goesBy 85 = .ok (.iload_n 2, 1) := by decide +kernel
theorem d_Md_goesBy_86 : decode b_Md_goesBy 86 = .ok (.invokestatic 139, 3) := by decide +kernel
theorem d_Md_goesBy_89 : decode b_Md_goesBy 89 = .ok (.iconst 2, 1) := by decide +kernel
theorem d_Md_goesBy_90 : decode b_Md_goesBy 90 = .ok (.if_icmp .le 29, 3) := by decide +kernel
theorem d_Md_goesBy_93 : decode b_Md_goesBy 93 = .ok (.iload_n 2, 1) := by decide +kernel
theorem d_Md_goesBy_94 : decode b_Md_goesBy 94 = .ok (.iload 4, 2) := by decide +kernel
theorem d_Md_goesBy_96 : decode b_Md_goesBy 96 = .ok (.iand, 1) := by decide +kernel
theorem d_Md_goesBy_97 : decode b_Md_goesBy 97 = .ok (.invokestatic 139, 3) := by decide +kernel
theorem d_Md_goesBy_100 : decode b_Md_goesBy 100 = .ok (.iconst 1, 1) := by decide +kernel
theorem d_Md_goesBy_101 : decode b_Md_goesBy 101 = .ok (.if_icmp .ne 18, 3) := by decide +kernel
theorem d_Md_goesBy_104 : decode b_Md_goesBy 104 = .ok (.iload 5, 2) := by decide +kernel
theorem d_Md_goesBy_106 : decode b_Md_goesBy 106 = .ok (.aload_n 0, 1) := by decide +kernel
theorem d_Md_goesBy_107 : decode b_Md_goesBy 107 = .ok (.iload_n 2, 1) := by decide +kernel
theorem d_Md_goesBy_108 : decode b_Md_goesBy 108 = .ok (.iload 5, 2) := by decide +kernel
theorem d_Md_goesBy_110 : decode b_Md_goesBy 110 = .ok (.iconst (-1), 1) := by decide +kernel
theorem d_Md_goesBy_111 : decode b_Md_goesBy 111 = .ok (.ixor, 1) := by decide +kernel
theorem d_Md_goesBy_112 : decode b_Md_goesBy 112 = .ok (.iand, 1) := by decide +kernel
theorem d_Md_goesBy_113 : decode b_Md_goesBy 113 = .ok (.iconst 0, 1) := by decide +kernel
theorem d_Md_goesBy_114 : decode b_Md_goesBy 114 = .ok (.invokevirtual 211, 3) := by decide +kernel
theorem d_Md_goesBy_117 : decode b_Md_goesBy 117 = .ok (.ior, 1) := by decide +kernel
theorem d_Md_goesBy_118 : decode b_Md_goesBy 118 = .ok (.ireturn, 1) := by decide +kernel
theorem d_Md_goesBy_119 : decode b_Md_goesBy 119 = .ok (.aload_n 0, 1) := by decide +kernel
theorem d_Md_goesBy_120 : decode b_Md_goesBy 120 = .ok (.iload_n 2, 1) := by decide +kernel
theorem d_Md_goesBy_121 : decode b_Md_goesBy 121 = .ok (.iconst 1, 1) := by decide +kernel
theorem d_Md_goesBy_122 : decode b_Md_goesBy 122 = .ok (.invokevirtual 211, 3) := by decide +kernel
theorem d_Md_goesBy_125 : decode b_Md_goesBy 125 = .ok (.iload 5, 2) := by decide +kernel
theorem d_Md_goesBy_127 : decode b_Md_goesBy 127 = .ok (.ior, 1) := by decide +kernel
theorem d_Md_goesBy_128 : decode b_Md_goesBy 128 = .ok (.ireturn, 1) := by decide +kernel
def p_Md_goesBy (n : Nat) (v1 : Int32) (v2 : Int32) (I : Nat → Int32) (R : Nat → Nat → Int32) : Option (Int32) := (if v1 = 2 then (p_Md_leastTwo n v2 I R).bind fun x64 => some x64 else (p_Md_all n I R).bind fun x2 => (p_Md_endOf n x2 1 I R).bind fun x4 => (p_Md_all n I R).bind fun x6 => (p_Md_endOf n (x6 &&& (x4 ^^^ (-1))) 1 I R).bind fun x8 => (p_Md_endOf n v2 0 I R).bind fun x10 => (if v1 = 1 then (p_Md_count1 n v2).bind fun x24 => (if x24 ≤ 3 then (if v1 = 1 then (p_Md_count1 n v2).bind fun x28 => (if x28 ≤ 2 then (p_Md_endOf n v2 1 I R).bind fun x30 => some (x30 ||| x10) else (p_Md_count1 n (v2 &&& (x4 ||| x8))).bind fun x32 => (if x32 = 1 then (p_Md_endOf n (v2 &&& (x10 ^^^ (-1))) 0 I R).bind fun x36 => some (x10 ||| x36) else (p_Md_endOf n v2 1 I R).bind fun x34 => some (x34 ||| x10))) else (p_Md_endOf n v2 1 I R).bind fun x26 => some (x26 ||| x10)) else (if (v2 &&& (x4 ||| x8)) = (x4 ||| x8) then (p_Md_count1 n (x4 ||| x8)).bind fun x50 => (if x50 = 2 then some (x4 ||| x8) else (if v1 = 1 then (p_Md_count1 n v2).bind fun x54 => (if x54 ≤ 2 then (p_Md_endOf n v2 1 I R).bind fun x56 => some (x56 ||| x10) else (p_Md_count1 n (v2 &&& (x4 ||| x8))).bind fun x58 => (if x58 = 1 then (p_Md_endOf n (v2 &&& (x10 ^^^ (-1))) 0 I R).bind fun x62 => some (x10 ||| x62) else (p_Md_endOf n v2 1 I R).bind fun x60 => some (x60 ||| x10))) else (p_Md_endOf n v2 1 I R).bind fun x52 => some (x52 ||| x10))) else (if v1 = 1 then (p_Md_count1 n v2).bind fun x40 => (if x40 ≤ 2 then (p_Md_endOf n v2 1 I R).bind fun x42 => some (x42 ||| x10) else (p_Md_count1 n (v2 &&& (x4 ||| x8))).bind fun x44 => (if x44 = 1 then (p_Md_endOf n (v2 &&& (x10 ^^^ (-1))) 0 I R).bind fun x48 => some (x10 ||| x48) else (p_Md_endOf n v2 1 I R).bind fun x46 => some (x46 ||| x10))) else (p_Md_endOf n v2 1 I R).bind fun x38 => some (x38 ||| x10)))) else (if v1 = 1 then (p_Md_count1 n v2).bind fun x14 => (if x14 ≤ 2 then (p_Md_endOf n v2 1 I R).bind fun x16 => some (x16 ||| x10) else (p_Md_count1 n (v2 &&& (x4 ||| x8))).bind fun x18 => (if x18 = 1 then (p_Md_endOf n (v2 &&& (x10 ^^^ (-1))) 0 I R).bind fun x22 => some (x10 ||| x22) else (p_Md_endOf n v2 1 I R).bind fun x20 => some (x20 ||| x10))) else (p_Md_endOf n v2 1 I R).bind fun x12 => some (x12 ||| x10))))
set_option maxHeartbeats 4000000 in
theorem c_Md_goesBy (l : Launch) (n : Nat) (v1 : Int32) (v2 : Int32) (I : Nat → Int32) (R : Nat → Nat → Int32)  : MMi l y_Md_goesBy b_Md_goesBy 6 .int (rL 7) (fun ad adK => [.int v1, .int v2]) I R ((p_Md_goesBy n v1 v2 I R).map fun r => (r, I, R)) := by
  refine en_mi (by decide) rfl (fun _ _ => Nat.le_of_ble_eq_true rfl) ?_
  intro z hz p e s m args below meth c dC dI ad cI cZ A adK adV ls C hA h hr hlk hl
  have hl : lv_has ls 6 [(0, .ref (ad 0)), (1, .int v1), (2, .int v2)] := hl
  obtain ⟨z, hf, rfl⟩ := op_map hz
  unfold p_Md_goesBy at hf
  obtain ⟨hx, hb, hml, hown, hT, -⟩ := id C
  refine lv_iload_n hx hb d_Md_goesBy_0 rfl (lv_at hl 1 rfl) ?_
  refine lv_iconst (v := 2) hx hb d_Md_goesBy_1 (by decide) ?_
  refine lv_icmp_ne (tgt := 11) hx hb d_Md_goesBy_2 (by decide) (fun hc => ?_) (fun hc => ?_)
  · have hf := op_f hc hf
    refine lv_aload_n hx hb d_Md_goesBy_11 rfl (lv_at hl 0 rfl) ?_
    refine lv_aload_n hx hb d_Md_goesBy_12 rfl (lv_at hl 0 rfl) ?_
    obtain ⟨x2, hc1, hf⟩ := op_bind hf
    refine kc_r (rest := [.ref (ad 0)]) C h hA (c_Md_all l n I R) hc1 (cbW 0 hT cd_Md_all rfl rfl ini_Md ml_Md_48 hd_Md_all ⟨Nat.le_of_ble_eq_true rfl, Nat.le_of_ble_eq_true rfl⟩) im_Md_all sp_Md_all rfl hl.1 rfl (Nat.le_of_ble_eq_true rfl) d_Md_goesBy_13 ⟨Nat.zero_le _, Nat.zero_le _⟩ (fun H locs h => ?_)
    refine lv_iconst (v := 1) hx hb d_Md_goesBy_16 (by decide) ?_
    obtain ⟨x4, hc3, hf⟩ := op_bind hf
    refine kc_r (rest := []) C h hA (c_Md_endOf l n x2 1 I R) hc3 (cbW 2 hT cd_Md_endOf rfl rfl ini_Md ml_Md_211 hd_Md_endOf ⟨Nat.le_of_ble_eq_true rfl, Nat.le_of_ble_eq_true rfl⟩) im_Md_endOf sp_Md_endOf rfl hl.1 rfl (Nat.le_of_ble_eq_true rfl) d_Md_goesBy_17 ⟨Nat.zero_le _, Nat.zero_le _⟩ (fun H locs h => ?_)
    refine lv_istore_n (lv' := [(3, .int x4), (0, .ref (ad 0)), (1, .int v1), (2, .int v2)]) hx hb d_Md_goesBy_20 rfl hl (by decide) rfl (fun ls hl => ?_)
    refine lv_iload_n hx hb d_Md_goesBy_21 rfl (lv_at hl 0 rfl) ?_
    refine lv_aload_n hx hb d_Md_goesBy_22 rfl (lv_at hl 1 rfl) ?_
    refine lv_aload_n hx hb d_Md_goesBy_23 rfl (lv_at hl 1 rfl) ?_
    obtain ⟨x6, hc5, hf⟩ := op_bind hf
    refine kc_r (rest := [.ref (ad 0), .int x4]) C h hA (c_Md_all l n I R) hc5 (cbW 0 hT cd_Md_all rfl rfl ini_Md ml_Md_48 hd_Md_all ⟨Nat.le_of_ble_eq_true rfl, Nat.le_of_ble_eq_true rfl⟩) im_Md_all sp_Md_all rfl hl.1 rfl (Nat.le_of_ble_eq_true rfl) d_Md_goesBy_24 ⟨Nat.zero_le _, Nat.zero_le _⟩ (fun H locs h => ?_)
    refine lv_iload_n hx hb d_Md_goesBy_27 rfl (lv_at hl 0 rfl) ?_
    refine lv_iconst (v := (-1)) hx hb d_Md_goesBy_28 (by decide) ?_
    refine lv_ixor hx hb d_Md_goesBy_29 ?_
    refine lv_iand hx hb d_Md_goesBy_30 ?_
    refine lv_iconst (v := 1) hx hb d_Md_goesBy_31 (by decide) ?_
    obtain ⟨x8, hc7, hf⟩ := op_bind hf
    refine kc_r (rest := [.int x4]) C h hA (c_Md_endOf l n (x6 &&& (x4 ^^^ (-1))) 1 I R) hc7 (cbW 2 hT cd_Md_endOf rfl rfl ini_Md ml_Md_211 hd_Md_endOf ⟨Nat.le_of_ble_eq_true rfl, Nat.le_of_ble_eq_true rfl⟩) im_Md_endOf sp_Md_endOf rfl hl.1 rfl (Nat.le_of_ble_eq_true rfl) d_Md_goesBy_32 ⟨Nat.zero_le _, Nat.zero_le _⟩ (fun H locs h => ?_)
    refine lv_ior hx hb d_Md_goesBy_35 ?_
    refine lv_istore (lv' := [(4, .int (x4 ||| x8)), (3, .int x4), (0, .ref (ad 0)), (1, .int v1), (2, .int v2)]) hx hb d_Md_goesBy_36 hl (by decide) rfl (fun ls hl => ?_)
    refine lv_aload_n hx hb d_Md_goesBy_38 rfl (lv_at hl 2 rfl) ?_
    refine lv_iload_n hx hb d_Md_goesBy_39 rfl (lv_at hl 4 rfl) ?_
    refine lv_iconst (v := 0) hx hb d_Md_goesBy_40 (by decide) ?_
    obtain ⟨x10, hc9, hf⟩ := op_bind hf
    refine kc_r (rest := []) C h hA (c_Md_endOf l n v2 0 I R) hc9 (cbW 2 hT cd_Md_endOf rfl rfl ini_Md ml_Md_211 hd_Md_endOf ⟨Nat.le_of_ble_eq_true rfl, Nat.le_of_ble_eq_true rfl⟩) im_Md_endOf sp_Md_endOf rfl hl.1 rfl (Nat.le_of_ble_eq_true rfl) d_Md_goesBy_41 ⟨Nat.zero_le _, Nat.zero_le _⟩ (fun H locs h => ?_)
    refine lv_istore (lv' := [(5, .int x10), (4, .int (x4 ||| x8)), (3, .int x4), (0, .ref (ad 0)), (1, .int v1), (2, .int v2)]) hx hb d_Md_goesBy_44 hl (by decide) rfl (fun ls hl => ?_)
    refine lv_iload_n hx hb d_Md_goesBy_46 rfl (lv_at hl 4 rfl) ?_
    refine lv_iconst (v := 1) hx hb d_Md_goesBy_47 (by decide) ?_
    refine lv_icmp_ne (tgt := 80) hx hb d_Md_goesBy_48 (by decide) (fun hc => ?_) (fun hc => ?_)
    · have hf := op_f hc hf
      refine lv_iload_n hx hb d_Md_goesBy_80 rfl (lv_at hl 4 rfl) ?_
      refine lv_iconst (v := 1) hx hb d_Md_goesBy_81 (by decide) ?_
      refine lv_icmp_ne (tgt := 119) hx hb d_Md_goesBy_82 (by decide) (fun hc => ?_) (fun hc => ?_)
      · have hf := op_f hc hf
        refine lv_aload_n hx hb d_Md_goesBy_119 rfl (lv_at hl 3 rfl) ?_
        refine lv_iload_n hx hb d_Md_goesBy_120 rfl (lv_at hl 5 rfl) ?_
        refine lv_iconst (v := 1) hx hb d_Md_goesBy_121 (by decide) ?_
        obtain ⟨x12, hc11, hf⟩ := op_bind hf
        refine kc_r (rest := []) C h hA (c_Md_endOf l n v2 1 I R) hc11 (cbW 2 hT cd_Md_endOf rfl rfl ini_Md ml_Md_211 hd_Md_endOf ⟨Nat.le_of_ble_eq_true rfl, Nat.le_of_ble_eq_true rfl⟩) im_Md_endOf sp_Md_endOf rfl hl.1 rfl (Nat.le_of_ble_eq_true rfl) d_Md_goesBy_122 ⟨Nat.zero_le _, Nat.zero_le _⟩ (fun H locs h => ?_)
        refine lv_iload hx hb d_Md_goesBy_125 (lv_at hl 0 rfl) ?_
        refine lv_ior hx hb d_Md_goesBy_127 ?_
        exact rt_mr C h hr hlk hf rfl d_Md_goesBy_128
      · have hf := op_t hc hf
        refine lv_iload_n hx hb d_Md_goesBy_85 rfl (lv_at hl 5 rfl) ?_
        obtain ⟨x14, hc13, hf⟩ := op_bind hf
        refine ks_i (rest := []) hx hb hml hown hT (c_Md_count1 l n v2 _ hc13) (cbW 1 hT cd_Md_count1 rfl rfl ini_Md ml_Md_139 hd_Md_count1 ⟨Nat.le_of_ble_eq_true rfl, Nat.le_of_ble_eq_true rfl⟩) sm_Md_count1 rfl hl.1 rfl (Nat.le_of_ble_eq_true rfl) d_Md_goesBy_86 ⟨Nat.zero_le _, Nat.zero_le _⟩ ?_
        refine lv_iconst (v := 2) hx hb d_Md_goesBy_89 (by decide) ?_
        refine lv_icmp_le (tgt := 119) hx hb d_Md_goesBy_90 (by decide) (fun hc => ?_) (fun hc => ?_)
        · have hf := op_t hc hf
          refine lv_aload_n hx hb d_Md_goesBy_119 rfl (lv_at hl 3 rfl) ?_
          refine lv_iload_n hx hb d_Md_goesBy_120 rfl (lv_at hl 5 rfl) ?_
          refine lv_iconst (v := 1) hx hb d_Md_goesBy_121 (by decide) ?_
          obtain ⟨x16, hc15, hf⟩ := op_bind hf
          refine kc_r (rest := []) C h hA (c_Md_endOf l n v2 1 I R) hc15 (cbW 2 hT cd_Md_endOf rfl rfl ini_Md ml_Md_211 hd_Md_endOf ⟨Nat.le_of_ble_eq_true rfl, Nat.le_of_ble_eq_true rfl⟩) im_Md_endOf sp_Md_endOf rfl hl.1 rfl (Nat.le_of_ble_eq_true rfl) d_Md_goesBy_122 ⟨Nat.zero_le _, Nat.zero_le _⟩ (fun H locs h => ?_)
          refine lv_iload hx hb d_Md_goesBy_125 (lv_at hl 0 rfl) ?_
          refine lv_ior hx hb d_Md_goesBy_127 ?_
          exact rt_mr C h hr hlk hf rfl d_Md_goesBy_128
        · have hf := op_f hc hf
          refine lv_iload_n hx hb d_Md_goesBy_93 rfl (lv_at hl 5 rfl) ?_
          refine lv_iload hx hb d_Md_goesBy_94 (lv_at hl 1 rfl) ?_
          refine lv_iand hx hb d_Md_goesBy_96 ?_
          obtain ⟨x18, hc17, hf⟩ := op_bind hf
          refine ks_i (rest := []) hx hb hml hown hT (c_Md_count1 l n (v2 &&& (x4 ||| x8)) _ hc17) (cbW 1 hT cd_Md_count1 rfl rfl ini_Md ml_Md_139 hd_Md_count1 ⟨Nat.le_of_ble_eq_true rfl, Nat.le_of_ble_eq_true rfl⟩) sm_Md_count1 rfl hl.1 rfl (Nat.le_of_ble_eq_true rfl) d_Md_goesBy_97 ⟨Nat.zero_le _, Nat.zero_le _⟩ ?_
          refine lv_iconst (v := 1) hx hb d_Md_goesBy_100 (by decide) ?_
          refine lv_icmp_ne (tgt := 119) hx hb d_Md_goesBy_101 (by decide) (fun hc => ?_) (fun hc => ?_)
          · have hf := op_f hc hf
            refine lv_aload_n hx hb d_Md_goesBy_119 rfl (lv_at hl 3 rfl) ?_
            refine lv_iload_n hx hb d_Md_goesBy_120 rfl (lv_at hl 5 rfl) ?_
            refine lv_iconst (v := 1) hx hb d_Md_goesBy_121 (by decide) ?_
            obtain ⟨x20, hc19, hf⟩ := op_bind hf
            refine kc_r (rest := []) C h hA (c_Md_endOf l n v2 1 I R) hc19 (cbW 2 hT cd_Md_endOf rfl rfl ini_Md ml_Md_211 hd_Md_endOf ⟨Nat.le_of_ble_eq_true rfl, Nat.le_of_ble_eq_true rfl⟩) im_Md_endOf sp_Md_endOf rfl hl.1 rfl (Nat.le_of_ble_eq_true rfl) d_Md_goesBy_122 ⟨Nat.zero_le _, Nat.zero_le _⟩ (fun H locs h => ?_)
            refine lv_iload hx hb d_Md_goesBy_125 (lv_at hl 0 rfl) ?_
            refine lv_ior hx hb d_Md_goesBy_127 ?_
            exact rt_mr C h hr hlk hf rfl d_Md_goesBy_128
          · have hf := op_t hc hf
            refine lv_iload hx hb d_Md_goesBy_104 (lv_at hl 0 rfl) ?_
            refine lv_aload_n hx hb d_Md_goesBy_106 rfl (lv_at hl 3 rfl) ?_
            refine lv_iload_n hx hb d_Md_goesBy_107 rfl (lv_at hl 5 rfl) ?_
            refine lv_iload hx hb d_Md_goesBy_108 (lv_at hl 0 rfl) ?_
            refine lv_iconst (v := (-1)) hx hb d_Md_goesBy_110 (by decide) ?_
            refine lv_ixor hx hb d_Md_goesBy_111 ?_
            refine lv_iand hx hb d_Md_goesBy_112 ?_
            refine lv_iconst (v := 0) hx hb d_Md_goesBy_113 (by decide) ?_
            obtain ⟨x22, hc21, hf⟩ := op_bind hf
            refine kc_r (rest := [.int x10]) C h hA (c_Md_endOf l n (v2 &&& (x10 ^^^ (-1))) 0 I R) hc21 (cbW 2 hT cd_Md_endOf rfl rfl ini_Md ml_Md_211 hd_Md_endOf ⟨Nat.le_of_ble_eq_true rfl, Nat.le_of_ble_eq_true rfl⟩) im_Md_endOf sp_Md_endOf rfl hl.1 rfl (Nat.le_of_ble_eq_true rfl) d_Md_goesBy_114 ⟨Nat.zero_le _, Nat.zero_le _⟩ (fun H locs h => ?_)
            refine lv_ior hx hb d_Md_goesBy_117 ?_
            exact rt_mr C h hr hlk hf rfl d_Md_goesBy_118
    · have hf := op_t hc hf
      refine lv_iload_n hx hb d_Md_goesBy_51 rfl (lv_at hl 5 rfl) ?_
      obtain ⟨x24, hc23, hf⟩ := op_bind hf
      refine ks_i (rest := []) hx hb hml hown hT (c_Md_count1 l n v2 _ hc23) (cbW 1 hT cd_Md_count1 rfl rfl ini_Md ml_Md_139 hd_Md_count1 ⟨Nat.le_of_ble_eq_true rfl, Nat.le_of_ble_eq_true rfl⟩) sm_Md_count1 rfl hl.1 rfl (Nat.le_of_ble_eq_true rfl) d_Md_goesBy_52 ⟨Nat.zero_le _, Nat.zero_le _⟩ ?_
      refine lv_iconst (v := 3) hx hb d_Md_goesBy_55 (by decide) ?_
      refine lv_icmp_le (tgt := 80) hx hb d_Md_goesBy_56 (by decide) (fun hc => ?_) (fun hc => ?_)
      · have hf := op_t hc hf
        refine lv_iload_n hx hb d_Md_goesBy_80 rfl (lv_at hl 4 rfl) ?_
        refine lv_iconst (v := 1) hx hb d_Md_goesBy_81 (by decide) ?_
        refine lv_icmp_ne (tgt := 119) hx hb d_Md_goesBy_82 (by decide) (fun hc => ?_) (fun hc => ?_)
        · have hf := op_f hc hf
          refine lv_aload_n hx hb d_Md_goesBy_119 rfl (lv_at hl 3 rfl) ?_
          refine lv_iload_n hx hb d_Md_goesBy_120 rfl (lv_at hl 5 rfl) ?_
          refine lv_iconst (v := 1) hx hb d_Md_goesBy_121 (by decide) ?_
          obtain ⟨x26, hc25, hf⟩ := op_bind hf
          refine kc_r (rest := []) C h hA (c_Md_endOf l n v2 1 I R) hc25 (cbW 2 hT cd_Md_endOf rfl rfl ini_Md ml_Md_211 hd_Md_endOf ⟨Nat.le_of_ble_eq_true rfl, Nat.le_of_ble_eq_true rfl⟩) im_Md_endOf sp_Md_endOf rfl hl.1 rfl (Nat.le_of_ble_eq_true rfl) d_Md_goesBy_122 ⟨Nat.zero_le _, Nat.zero_le _⟩ (fun H locs h => ?_)
          refine lv_iload hx hb d_Md_goesBy_125 (lv_at hl 0 rfl) ?_
          refine lv_ior hx hb d_Md_goesBy_127 ?_
          exact rt_mr C h hr hlk hf rfl d_Md_goesBy_128
        · have hf := op_t hc hf
          refine lv_iload_n hx hb d_Md_goesBy_85 rfl (lv_at hl 5 rfl) ?_
          obtain ⟨x28, hc27, hf⟩ := op_bind hf
          refine ks_i (rest := []) hx hb hml hown hT (c_Md_count1 l n v2 _ hc27) (cbW 1 hT cd_Md_count1 rfl rfl ini_Md ml_Md_139 hd_Md_count1 ⟨Nat.le_of_ble_eq_true rfl, Nat.le_of_ble_eq_true rfl⟩) sm_Md_count1 rfl hl.1 rfl (Nat.le_of_ble_eq_true rfl) d_Md_goesBy_86 ⟨Nat.zero_le _, Nat.zero_le _⟩ ?_
          refine lv_iconst (v := 2) hx hb d_Md_goesBy_89 (by decide) ?_
          refine lv_icmp_le (tgt := 119) hx hb d_Md_goesBy_90 (by decide) (fun hc => ?_) (fun hc => ?_)
          · have hf := op_t hc hf
            refine lv_aload_n hx hb d_Md_goesBy_119 rfl (lv_at hl 3 rfl) ?_
            refine lv_iload_n hx hb d_Md_goesBy_120 rfl (lv_at hl 5 rfl) ?_
            refine lv_iconst (v := 1) hx hb d_Md_goesBy_121 (by decide) ?_
            obtain ⟨x30, hc29, hf⟩ := op_bind hf
            refine kc_r (rest := []) C h hA (c_Md_endOf l n v2 1 I R) hc29 (cbW 2 hT cd_Md_endOf rfl rfl ini_Md ml_Md_211 hd_Md_endOf ⟨Nat.le_of_ble_eq_true rfl, Nat.le_of_ble_eq_true rfl⟩) im_Md_endOf sp_Md_endOf rfl hl.1 rfl (Nat.le_of_ble_eq_true rfl) d_Md_goesBy_122 ⟨Nat.zero_le _, Nat.zero_le _⟩ (fun H locs h => ?_)
            refine lv_iload hx hb d_Md_goesBy_125 (lv_at hl 0 rfl) ?_
            refine lv_ior hx hb d_Md_goesBy_127 ?_
            exact rt_mr C h hr hlk hf rfl d_Md_goesBy_128
          · have hf := op_f hc hf
            refine lv_iload_n hx hb d_Md_goesBy_93 rfl (lv_at hl 5 rfl) ?_
            refine lv_iload hx hb d_Md_goesBy_94 (lv_at hl 1 rfl) ?_
            refine lv_iand hx hb d_Md_goesBy_96 ?_
            obtain ⟨x32, hc31, hf⟩ := op_bind hf
            refine ks_i (rest := []) hx hb hml hown hT (c_Md_count1 l n (v2 &&& (x4 ||| x8)) _ hc31) (cbW 1 hT cd_Md_count1 rfl rfl ini_Md ml_Md_139 hd_Md_count1 ⟨Nat.le_of_ble_eq_true rfl, Nat.le_of_ble_eq_true rfl⟩) sm_Md_count1 rfl hl.1 rfl (Nat.le_of_ble_eq_true rfl) d_Md_goesBy_97 ⟨Nat.zero_le _, Nat.zero_le _⟩ ?_
            refine lv_iconst (v := 1) hx hb d_Md_goesBy_100 (by decide) ?_
            refine lv_icmp_ne (tgt := 119) hx hb d_Md_goesBy_101 (by decide) (fun hc => ?_) (fun hc => ?_)
            · have hf := op_f hc hf
              refine lv_aload_n hx hb d_Md_goesBy_119 rfl (lv_at hl 3 rfl) ?_
              refine lv_iload_n hx hb d_Md_goesBy_120 rfl (lv_at hl 5 rfl) ?_
              refine lv_iconst (v := 1) hx hb d_Md_goesBy_121 (by decide) ?_
              obtain ⟨x34, hc33, hf⟩ := op_bind hf
              refine kc_r (rest := []) C h hA (c_Md_endOf l n v2 1 I R) hc33 (cbW 2 hT cd_Md_endOf rfl rfl ini_Md ml_Md_211 hd_Md_endOf ⟨Nat.le_of_ble_eq_true rfl, Nat.le_of_ble_eq_true rfl⟩) im_Md_endOf sp_Md_endOf rfl hl.1 rfl (Nat.le_of_ble_eq_true rfl) d_Md_goesBy_122 ⟨Nat.zero_le _, Nat.zero_le _⟩ (fun H locs h => ?_)
              refine lv_iload hx hb d_Md_goesBy_125 (lv_at hl 0 rfl) ?_
              refine lv_ior hx hb d_Md_goesBy_127 ?_
              exact rt_mr C h hr hlk hf rfl d_Md_goesBy_128
            · have hf := op_t hc hf
              refine lv_iload hx hb d_Md_goesBy_104 (lv_at hl 0 rfl) ?_
              refine lv_aload_n hx hb d_Md_goesBy_106 rfl (lv_at hl 3 rfl) ?_
              refine lv_iload_n hx hb d_Md_goesBy_107 rfl (lv_at hl 5 rfl) ?_
              refine lv_iload hx hb d_Md_goesBy_108 (lv_at hl 0 rfl) ?_
              refine lv_iconst (v := (-1)) hx hb d_Md_goesBy_110 (by decide) ?_
              refine lv_ixor hx hb d_Md_goesBy_111 ?_
              refine lv_iand hx hb d_Md_goesBy_112 ?_
              refine lv_iconst (v := 0) hx hb d_Md_goesBy_113 (by decide) ?_
              obtain ⟨x36, hc35, hf⟩ := op_bind hf
              refine kc_r (rest := [.int x10]) C h hA (c_Md_endOf l n (v2 &&& (x10 ^^^ (-1))) 0 I R) hc35 (cbW 2 hT cd_Md_endOf rfl rfl ini_Md ml_Md_211 hd_Md_endOf ⟨Nat.le_of_ble_eq_true rfl, Nat.le_of_ble_eq_true rfl⟩) im_Md_endOf sp_Md_endOf rfl hl.1 rfl (Nat.le_of_ble_eq_true rfl) d_Md_goesBy_114 ⟨Nat.zero_le _, Nat.zero_le _⟩ (fun H locs h => ?_)
              refine lv_ior hx hb d_Md_goesBy_117 ?_
              exact rt_mr C h hr hlk hf rfl d_Md_goesBy_118
      · have hf := op_f hc hf
        refine lv_iload_n hx hb d_Md_goesBy_59 rfl (lv_at hl 5 rfl) ?_
        refine lv_iload hx hb d_Md_goesBy_60 (lv_at hl 1 rfl) ?_
        refine lv_iand hx hb d_Md_goesBy_62 ?_
        refine lv_iload hx hb d_Md_goesBy_63 (lv_at hl 1 rfl) ?_
        refine lv_icmp_ne (tgt := 80) hx hb d_Md_goesBy_65 (by decide) (fun hc => ?_) (fun hc => ?_)
        · have hf := op_f hc hf
          refine lv_iload_n hx hb d_Md_goesBy_80 rfl (lv_at hl 4 rfl) ?_
          refine lv_iconst (v := 1) hx hb d_Md_goesBy_81 (by decide) ?_
          refine lv_icmp_ne (tgt := 119) hx hb d_Md_goesBy_82 (by decide) (fun hc => ?_) (fun hc => ?_)
          · have hf := op_f hc hf
            refine lv_aload_n hx hb d_Md_goesBy_119 rfl (lv_at hl 3 rfl) ?_
            refine lv_iload_n hx hb d_Md_goesBy_120 rfl (lv_at hl 5 rfl) ?_
            refine lv_iconst (v := 1) hx hb d_Md_goesBy_121 (by decide) ?_
            obtain ⟨x38, hc37, hf⟩ := op_bind hf
            refine kc_r (rest := []) C h hA (c_Md_endOf l n v2 1 I R) hc37 (cbW 2 hT cd_Md_endOf rfl rfl ini_Md ml_Md_211 hd_Md_endOf ⟨Nat.le_of_ble_eq_true rfl, Nat.le_of_ble_eq_true rfl⟩) im_Md_endOf sp_Md_endOf rfl hl.1 rfl (Nat.le_of_ble_eq_true rfl) d_Md_goesBy_122 ⟨Nat.zero_le _, Nat.zero_le _⟩ (fun H locs h => ?_)
            refine lv_iload hx hb d_Md_goesBy_125 (lv_at hl 0 rfl) ?_
            refine lv_ior hx hb d_Md_goesBy_127 ?_
            exact rt_mr C h hr hlk hf rfl d_Md_goesBy_128
          · have hf := op_t hc hf
            refine lv_iload_n hx hb d_Md_goesBy_85 rfl (lv_at hl 5 rfl) ?_
            obtain ⟨x40, hc39, hf⟩ := op_bind hf
            refine ks_i (rest := []) hx hb hml hown hT (c_Md_count1 l n v2 _ hc39) (cbW 1 hT cd_Md_count1 rfl rfl ini_Md ml_Md_139 hd_Md_count1 ⟨Nat.le_of_ble_eq_true rfl, Nat.le_of_ble_eq_true rfl⟩) sm_Md_count1 rfl hl.1 rfl (Nat.le_of_ble_eq_true rfl) d_Md_goesBy_86 ⟨Nat.zero_le _, Nat.zero_le _⟩ ?_
            refine lv_iconst (v := 2) hx hb d_Md_goesBy_89 (by decide) ?_
            refine lv_icmp_le (tgt := 119) hx hb d_Md_goesBy_90 (by decide) (fun hc => ?_) (fun hc => ?_)
            · have hf := op_t hc hf
              refine lv_aload_n hx hb d_Md_goesBy_119 rfl (lv_at hl 3 rfl) ?_
              refine lv_iload_n hx hb d_Md_goesBy_120 rfl (lv_at hl 5 rfl) ?_
              refine lv_iconst (v := 1) hx hb d_Md_goesBy_121 (by decide) ?_
              obtain ⟨x42, hc41, hf⟩ := op_bind hf
              refine kc_r (rest := []) C h hA (c_Md_endOf l n v2 1 I R) hc41 (cbW 2 hT cd_Md_endOf rfl rfl ini_Md ml_Md_211 hd_Md_endOf ⟨Nat.le_of_ble_eq_true rfl, Nat.le_of_ble_eq_true rfl⟩) im_Md_endOf sp_Md_endOf rfl hl.1 rfl (Nat.le_of_ble_eq_true rfl) d_Md_goesBy_122 ⟨Nat.zero_le _, Nat.zero_le _⟩ (fun H locs h => ?_)
              refine lv_iload hx hb d_Md_goesBy_125 (lv_at hl 0 rfl) ?_
              refine lv_ior hx hb d_Md_goesBy_127 ?_
              exact rt_mr C h hr hlk hf rfl d_Md_goesBy_128
            · have hf := op_f hc hf
              refine lv_iload_n hx hb d_Md_goesBy_93 rfl (lv_at hl 5 rfl) ?_
              refine lv_iload hx hb d_Md_goesBy_94 (lv_at hl 1 rfl) ?_
              refine lv_iand hx hb d_Md_goesBy_96 ?_
              obtain ⟨x44, hc43, hf⟩ := op_bind hf
              refine ks_i (rest := []) hx hb hml hown hT (c_Md_count1 l n (v2 &&& (x4 ||| x8)) _ hc43) (cbW 1 hT cd_Md_count1 rfl rfl ini_Md ml_Md_139 hd_Md_count1 ⟨Nat.le_of_ble_eq_true rfl, Nat.le_of_ble_eq_true rfl⟩) sm_Md_count1 rfl hl.1 rfl (Nat.le_of_ble_eq_true rfl) d_Md_goesBy_97 ⟨Nat.zero_le _, Nat.zero_le _⟩ ?_
              refine lv_iconst (v := 1) hx hb d_Md_goesBy_100 (by decide) ?_
              refine lv_icmp_ne (tgt := 119) hx hb d_Md_goesBy_101 (by decide) (fun hc => ?_) (fun hc => ?_)
              · have hf := op_f hc hf
                refine lv_aload_n hx hb d_Md_goesBy_119 rfl (lv_at hl 3 rfl) ?_
                refine lv_iload_n hx hb d_Md_goesBy_120 rfl (lv_at hl 5 rfl) ?_
                refine lv_iconst (v := 1) hx hb d_Md_goesBy_121 (by decide) ?_
                obtain ⟨x46, hc45, hf⟩ := op_bind hf
                refine kc_r (rest := []) C h hA (c_Md_endOf l n v2 1 I R) hc45 (cbW 2 hT cd_Md_endOf rfl rfl ini_Md ml_Md_211 hd_Md_endOf ⟨Nat.le_of_ble_eq_true rfl, Nat.le_of_ble_eq_true rfl⟩) im_Md_endOf sp_Md_endOf rfl hl.1 rfl (Nat.le_of_ble_eq_true rfl) d_Md_goesBy_122 ⟨Nat.zero_le _, Nat.zero_le _⟩ (fun H locs h => ?_)
                refine lv_iload hx hb d_Md_goesBy_125 (lv_at hl 0 rfl) ?_
                refine lv_ior hx hb d_Md_goesBy_127 ?_
                exact rt_mr C h hr hlk hf rfl d_Md_goesBy_128
              · have hf := op_t hc hf
                refine lv_iload hx hb d_Md_goesBy_104 (lv_at hl 0 rfl) ?_
                refine lv_aload_n hx hb d_Md_goesBy_106 rfl (lv_at hl 3 rfl) ?_
                refine lv_iload_n hx hb d_Md_goesBy_107 rfl (lv_at hl 5 rfl) ?_
                refine lv_iload hx hb d_Md_goesBy_108 (lv_at hl 0 rfl) ?_
                refine lv_iconst (v := (-1)) hx hb d_Md_goesBy_110 (by decide) ?_
                refine lv_ixor hx hb d_Md_goesBy_111 ?_
                refine lv_iand hx hb d_Md_goesBy_112 ?_
                refine lv_iconst (v := 0) hx hb d_Md_goesBy_113 (by decide) ?_
                obtain ⟨x48, hc47, hf⟩ := op_bind hf
                refine kc_r (rest := [.int x10]) C h hA (c_Md_endOf l n (v2 &&& (x10 ^^^ (-1))) 0 I R) hc47 (cbW 2 hT cd_Md_endOf rfl rfl ini_Md ml_Md_211 hd_Md_endOf ⟨Nat.le_of_ble_eq_true rfl, Nat.le_of_ble_eq_true rfl⟩) im_Md_endOf sp_Md_endOf rfl hl.1 rfl (Nat.le_of_ble_eq_true rfl) d_Md_goesBy_114 ⟨Nat.zero_le _, Nat.zero_le _⟩ (fun H locs h => ?_)
                refine lv_ior hx hb d_Md_goesBy_117 ?_
                exact rt_mr C h hr hlk hf rfl d_Md_goesBy_118
        · have hf := op_t hc hf
          refine lv_iload hx hb d_Md_goesBy_68 (lv_at hl 1 rfl) ?_
          obtain ⟨x50, hc49, hf⟩ := op_bind hf
          refine ks_i (rest := []) hx hb hml hown hT (c_Md_count1 l n (x4 ||| x8) _ hc49) (cbW 1 hT cd_Md_count1 rfl rfl ini_Md ml_Md_139 hd_Md_count1 ⟨Nat.le_of_ble_eq_true rfl, Nat.le_of_ble_eq_true rfl⟩) sm_Md_count1 rfl hl.1 rfl (Nat.le_of_ble_eq_true rfl) d_Md_goesBy_70 ⟨Nat.zero_le _, Nat.zero_le _⟩ ?_
          refine lv_iconst (v := 2) hx hb d_Md_goesBy_73 (by decide) ?_
          refine lv_icmp_ne (tgt := 80) hx hb d_Md_goesBy_74 (by decide) (fun hc => ?_) (fun hc => ?_)
          · have hf := op_f hc hf
            refine lv_iload_n hx hb d_Md_goesBy_80 rfl (lv_at hl 4 rfl) ?_
            refine lv_iconst (v := 1) hx hb d_Md_goesBy_81 (by decide) ?_
            refine lv_icmp_ne (tgt := 119) hx hb d_Md_goesBy_82 (by decide) (fun hc => ?_) (fun hc => ?_)
            · have hf := op_f hc hf
              refine lv_aload_n hx hb d_Md_goesBy_119 rfl (lv_at hl 3 rfl) ?_
              refine lv_iload_n hx hb d_Md_goesBy_120 rfl (lv_at hl 5 rfl) ?_
              refine lv_iconst (v := 1) hx hb d_Md_goesBy_121 (by decide) ?_
              obtain ⟨x52, hc51, hf⟩ := op_bind hf
              refine kc_r (rest := []) C h hA (c_Md_endOf l n v2 1 I R) hc51 (cbW 2 hT cd_Md_endOf rfl rfl ini_Md ml_Md_211 hd_Md_endOf ⟨Nat.le_of_ble_eq_true rfl, Nat.le_of_ble_eq_true rfl⟩) im_Md_endOf sp_Md_endOf rfl hl.1 rfl (Nat.le_of_ble_eq_true rfl) d_Md_goesBy_122 ⟨Nat.zero_le _, Nat.zero_le _⟩ (fun H locs h => ?_)
              refine lv_iload hx hb d_Md_goesBy_125 (lv_at hl 0 rfl) ?_
              refine lv_ior hx hb d_Md_goesBy_127 ?_
              exact rt_mr C h hr hlk hf rfl d_Md_goesBy_128
            · have hf := op_t hc hf
              refine lv_iload_n hx hb d_Md_goesBy_85 rfl (lv_at hl 5 rfl) ?_
              obtain ⟨x54, hc53, hf⟩ := op_bind hf
              refine ks_i (rest := []) hx hb hml hown hT (c_Md_count1 l n v2 _ hc53) (cbW 1 hT cd_Md_count1 rfl rfl ini_Md ml_Md_139 hd_Md_count1 ⟨Nat.le_of_ble_eq_true rfl, Nat.le_of_ble_eq_true rfl⟩) sm_Md_count1 rfl hl.1 rfl (Nat.le_of_ble_eq_true rfl) d_Md_goesBy_86 ⟨Nat.zero_le _, Nat.zero_le _⟩ ?_
              refine lv_iconst (v := 2) hx hb d_Md_goesBy_89 (by decide) ?_
              refine lv_icmp_le (tgt := 119) hx hb d_Md_goesBy_90 (by decide) (fun hc => ?_) (fun hc => ?_)
              · have hf := op_t hc hf
                refine lv_aload_n hx hb d_Md_goesBy_119 rfl (lv_at hl 3 rfl) ?_
                refine lv_iload_n hx hb d_Md_goesBy_120 rfl (lv_at hl 5 rfl) ?_
                refine lv_iconst (v := 1) hx hb d_Md_goesBy_121 (by decide) ?_
                obtain ⟨x56, hc55, hf⟩ := op_bind hf
                refine kc_r (rest := []) C h hA (c_Md_endOf l n v2 1 I R) hc55 (cbW 2 hT cd_Md_endOf rfl rfl ini_Md ml_Md_211 hd_Md_endOf ⟨Nat.le_of_ble_eq_true rfl, Nat.le_of_ble_eq_true rfl⟩) im_Md_endOf sp_Md_endOf rfl hl.1 rfl (Nat.le_of_ble_eq_true rfl) d_Md_goesBy_122 ⟨Nat.zero_le _, Nat.zero_le _⟩ (fun H locs h => ?_)
                refine lv_iload hx hb d_Md_goesBy_125 (lv_at hl 0 rfl) ?_
                refine lv_ior hx hb d_Md_goesBy_127 ?_
                exact rt_mr C h hr hlk hf rfl d_Md_goesBy_128
              · have hf := op_f hc hf
                refine lv_iload_n hx hb d_Md_goesBy_93 rfl (lv_at hl 5 rfl) ?_
                refine lv_iload hx hb d_Md_goesBy_94 (lv_at hl 1 rfl) ?_
                refine lv_iand hx hb d_Md_goesBy_96 ?_
                obtain ⟨x58, hc57, hf⟩ := op_bind hf
                refine ks_i (rest := []) hx hb hml hown hT (c_Md_count1 l n (v2 &&& (x4 ||| x8)) _ hc57) (cbW 1 hT cd_Md_count1 rfl rfl ini_Md ml_Md_139 hd_Md_count1 ⟨Nat.le_of_ble_eq_true rfl, Nat.le_of_ble_eq_true rfl⟩) sm_Md_count1 rfl hl.1 rfl (Nat.le_of_ble_eq_true rfl) d_Md_goesBy_97 ⟨Nat.zero_le _, Nat.zero_le _⟩ ?_
                refine lv_iconst (v := 1) hx hb d_Md_goesBy_100 (by decide) ?_
                refine lv_icmp_ne (tgt := 119) hx hb d_Md_goesBy_101 (by decide) (fun hc => ?_) (fun hc => ?_)
                · have hf := op_f hc hf
                  refine lv_aload_n hx hb d_Md_goesBy_119 rfl (lv_at hl 3 rfl) ?_
                  refine lv_iload_n hx hb d_Md_goesBy_120 rfl (lv_at hl 5 rfl) ?_
                  refine lv_iconst (v := 1) hx hb d_Md_goesBy_121 (by decide) ?_
                  obtain ⟨x60, hc59, hf⟩ := op_bind hf
                  refine kc_r (rest := []) C h hA (c_Md_endOf l n v2 1 I R) hc59 (cbW 2 hT cd_Md_endOf rfl rfl ini_Md ml_Md_211 hd_Md_endOf ⟨Nat.le_of_ble_eq_true rfl, Nat.le_of_ble_eq_true rfl⟩) im_Md_endOf sp_Md_endOf rfl hl.1 rfl (Nat.le_of_ble_eq_true rfl) d_Md_goesBy_122 ⟨Nat.zero_le _, Nat.zero_le _⟩ (fun H locs h => ?_)
                  refine lv_iload hx hb d_Md_goesBy_125 (lv_at hl 0 rfl) ?_
                  refine lv_ior hx hb d_Md_goesBy_127 ?_
                  exact rt_mr C h hr hlk hf rfl d_Md_goesBy_128
                · have hf := op_t hc hf
                  refine lv_iload hx hb d_Md_goesBy_104 (lv_at hl 0 rfl) ?_
                  refine lv_aload_n hx hb d_Md_goesBy_106 rfl (lv_at hl 3 rfl) ?_
                  refine lv_iload_n hx hb d_Md_goesBy_107 rfl (lv_at hl 5 rfl) ?_
                  refine lv_iload hx hb d_Md_goesBy_108 (lv_at hl 0 rfl) ?_
                  refine lv_iconst (v := (-1)) hx hb d_Md_goesBy_110 (by decide) ?_
                  refine lv_ixor hx hb d_Md_goesBy_111 ?_
                  refine lv_iand hx hb d_Md_goesBy_112 ?_
                  refine lv_iconst (v := 0) hx hb d_Md_goesBy_113 (by decide) ?_
                  obtain ⟨x62, hc61, hf⟩ := op_bind hf
                  refine kc_r (rest := [.int x10]) C h hA (c_Md_endOf l n (v2 &&& (x10 ^^^ (-1))) 0 I R) hc61 (cbW 2 hT cd_Md_endOf rfl rfl ini_Md ml_Md_211 hd_Md_endOf ⟨Nat.le_of_ble_eq_true rfl, Nat.le_of_ble_eq_true rfl⟩) im_Md_endOf sp_Md_endOf rfl hl.1 rfl (Nat.le_of_ble_eq_true rfl) d_Md_goesBy_114 ⟨Nat.zero_le _, Nat.zero_le _⟩ (fun H locs h => ?_)
                  refine lv_ior hx hb d_Md_goesBy_117 ?_
                  exact rt_mr C h hr hlk hf rfl d_Md_goesBy_118
          · have hf := op_t hc hf
            refine lv_iload hx hb d_Md_goesBy_77 (lv_at hl 1 rfl) ?_
            exact rt_mr C h hr hlk hf rfl d_Md_goesBy_79
  · have hf := op_t hc hf
    refine lv_aload_n hx hb d_Md_goesBy_5 rfl (lv_at hl 0 rfl) ?_
    refine lv_iload_n hx hb d_Md_goesBy_6 rfl (lv_at hl 2 rfl) ?_
    obtain ⟨x64, hc63, hf⟩ := op_bind hf
    refine kc_r (rest := []) C h hA (c_Md_leastTwo l n v2 I R) hc63 (cbW 1 hT cd_Md_leastTwo rfl rfl ini_Md ml_Md_208 hd_Md_leastTwo ⟨Nat.le_of_ble_eq_true rfl, Nat.le_of_ble_eq_true rfl⟩) im_Md_leastTwo sp_Md_leastTwo rfl hl.1 rfl (Nat.le_of_ble_eq_true rfl) d_Md_goesBy_7 ⟨Nat.zero_le _, Nat.zero_le _⟩ (fun H locs h => ?_)
    exact rt_mr C h hr hlk hf rfl d_Md_goesBy_10
theorem hd_Md_seen : y_Md_seen.cls ≠ "java/lang/invoke/MethodHandle" ∧ y_Md_seen.cls ≠ "java/lang/invoke/VarHandle" ∧ (parseMethodDescriptor y_Md_seen.desc).map (fun d => d.parameters.length) = some 2 := by decide +kernel
theorem d_Md_seen_0 : decode b_Md_seen 0 = .ok (.iload_n 1, 1) := by decide +kernel
theorem d_Md_seen_1 : decode b_Md_seen 1 = .ok (.iconst (-1), 1) := by decide +kernel
theorem d_Md_seen_2 : decode b_Md_seen 2 = .ok (.if_icmp .ne 12, 3) := by decide +kernel
theorem d_Md_seen_5 : decode b_Md_seen 5 = .ok (.aload_n 0, 1) := by decide +kernel
theorem d_Md_seen_6 : decode b_Md_seen 6 = .ok (.getfield 9, 3) := by decide +kernel
theorem d_Md_seen_9 : decode b_Md_seen 9 = .ok (.iconst 2, 1) := by decide +kernel
theorem d_Md_seen_10 : decode b_Md_seen 10 = .ok (.iconst 0, 1) := by decide +kernel
theorem d_Md_seen_11 : decode b_Md_seen 11 = .ok (.iastore, 1) := by decide +kernel
theorem d_Md_seen_12 : decode b_Md_seen 12 = .ok (.iconst 0, 1) := by decide +kernel
theorem d_Md_seen_13 : decode b_Md_seen 13 = .ok (.ireturn, 1) := by decide +kernel
theorem d_Md_seen_14 : decode b_Md_seen 14 = .ok (.aload_n 0, 1) := by decide +kernel
theorem d_Md_seen_15 : decode b_Md_seen 15 = .ok (.iload_n 1, 1) := by decide +kernel
theorem d_Md_seen_16 : decode b_Md_seen 16 = .ok (.invokevirtual 164, 3) := by decide +kernel
theorem d_Md_seen_19 : decode b_Md_seen 19 = .ok (.ifCond .eq 17, 3) := by decide +kernel
theorem d_Md_seen_22 : decode b_Md_seen 22 = .ok (.iload_n 1, 1) := by decide +kernel
theorem d_Md_seen_23 : decode b_Md_seen 23 = .ok (.ifCond .eq 13, 3) := by decide +kernel
theorem d_Md_seen_26 : decode b_Md_seen 26 = .ok (.iload_n 2, 1) := by decide +kernel
theorem d_Md_seen_27 : decode b_Md_seen 27 = .ok (.iconst 1, 1) := by decide +kernel
theorem d_Md_seen_28 : decode b_Md_seen 28 = .ok (.bipush 99, 2) := by decide +kernel
theorem d_Md_seen_30 : decode b_Md_seen 30 = .ok (.invokestatic 44, 3) := by decide +kernel
theorem d_Md_seen_33 : decode b_Md_seen 33 = .ok (.ifCond .ne 6, 3) := by decide +kernel
theorem d_Md_seen_36 : decode b_Md_seen 36 = .ok (.bipush (-2), 2) := by decide +kernel
theorem d_Md_seen_38 : decode b_Md_seen 38 = .ok (.ireturn, 1) := by decide +kernel
theorem d_Md_seen_39 : decode b_Md_seen 39 = .ok (.aload_n 0, 1) := by decide +kernel
theorem d_Md_seen_40 : decode b_Md_seen 40 = .ok (.getfield 9, 3) := by decide +kernel
theorem d_Md_seen_43 : decode b_Md_seen 43 = .ok (.iconst 2, 1) := by decide +kernel
theorem d_Md_seen_44 : decode b_Md_seen 44 = .ok (.iaload, 1) := by decide +kernel
theorem d_Md_seen_45 : decode b_Md_seen 45 = .ok (.bipush 12, 2) := by decide +kernel
theorem d_Md_seen_47 : decode b_Md_seen 47 = .ok (.if_icmp .ne 6, 3) := by decide +kernel
theorem d_Md_seen_50 : decode b_Md_seen 50 = .ok (.bipush (-4), 2) := by decide +kernel
theorem d_Md_seen_52 : decode b_Md_seen 52 = .ok (.ireturn, 1) := by decide +kernel
theorem d_Md_seen_53 : decode b_Md_seen 53 = .ok (.aload_n 0, 1) := by decide +kernel
theorem d_Md_seen_54 : decode b_Md_seen 54 = .ok (.getfield 9, 3) := by decide +kernel
theorem d_Md_seen_57 : decode b_Md_seen 57 = .ok (.bipush 34, 2) := by decide +kernel
theorem d_Md_seen_59 : decode b_Md_seen 59 = .ok (.aload_n 0, 1) := by decide +kernel
theorem d_Md_seen_60 : decode b_Md_seen 60 = .ok (.getfield 9, 3) := by decide +kernel
theorem d_Md_seen_63 : decode b_Md_seen 63 = .ok (.iconst 2, 1) := by decide +kernel
theorem d_Md_seen_64 : decode b_Md_seen 64 = .ok (.iaload, 1) := by decide +kernel
theorem d_Md_seen_65 : decode b_Md_seen 65 = .ok (.iadd, 1) := by decide +kernel
theorem d_Md_seen_66 : decode b_Md_seen 66 = .ok (.iload_n 1, 1) := by decide +kernel
theorem d_Md_seen_67 : decode b_Md_seen 67 = .ok (.iastore, 1) := by decide +kernel
theorem d_Md_seen_68 : decode b_Md_seen 68 = .ok (.aload_n 0, 1) := by decide +kernel
theorem d_Md_seen_69 : decode b_Md_seen 69 = .ok (.getfield 9, 3) := by decide +kernel
theorem d_Md_seen_72 : decode b_Md_seen 72 = .ok (.bipush 46, 2) := by decide +kernel
theorem d_Md_seen_74 : decode b_Md_seen 74 = .ok (.aload_n 0, 1) := by decide +kernel
theorem d_Md_seen_75 : decode b_Md_seen 75 = .ok (.getfield 9, 3) := by decide +kernel
theorem d_Md_seen_78 : decode b_Md_seen 78 = .ok (.iconst 2, 1) := by decide +kernel
theorem d_Md_seen_79 : decode b_Md_seen 79 = .ok (.iaload, 1) := by decide +kernel
theorem d_Md_seen_80 : decode b_Md_seen 80 = .ok (.iadd, 1) := by decide +kernel
theorem d_Md_seen_81 : decode b_Md_seen 81 = .ok (.iload_n 2, 1) := by decide +kernel
theorem d_Md_seen_82 : decode b_Md_seen 82 = .ok (.iastore, 1) := by decide +kernel
theorem d_Md_seen_83 : decode b_Md_seen 83 = .ok (.aload_n 0, 1) := by decide +kernel
theorem d_Md_seen_84 : decode b_Md_seen 84 = .ok (.getfield 9, 3) := by decide +kernel
theorem d_Md_seen_87 : decode b_Md_seen 87 = .ok (.iconst 2, 1) := by decide +kernel
theorem d_Md_seen_88 : decode b_Md_seen 88 = .ok (.dup2, 1) := by decide +kernel
theorem d_Md_seen_89 : decode b_Md_seen 89 = .ok (.iaload, 1) := by decide +kernel
theorem d_Md_seen_90 : decode b_Md_seen 90 = .ok (.iconst 1, 1) := by decide +kernel
theorem d_Md_seen_91 : decode b_Md_seen 91 = .ok (.iadd, 1) := by decide +kernel
theorem d_Md_seen_92 : decode b_Md_seen 92 = .ok (.iastore, 1) := by decide +kernel
theorem d_Md_seen_93 : decode b_Md_seen 93 = .ok (.aload_n 0, 1) := by decide +kernel
theorem d_Md_seen_94 : decode b_Md_seen 94 = .ok (.getfield 9, 3) := by decide +kernel
theorem d_Md_seen_97 : decode b_Md_seen 97 = .ok (.iconst 2, 1) := by decide +kernel
theorem d_Md_seen_98 : decode b_Md_seen 98 = .ok (.iaload, 1) := by decide +kernel
theorem d_Md_seen_99 : decode b_Md_seen 99 = .ok (.ireturn, 1) := by decide +kernel
def p_Md_seen (n : Nat) (v1 : Int32) (v2 : Int32) (I : Nat → Int32) (R : Nat → Nat → Int32) : Option (Int32 × MU) := (if v1 = (-1) then some (0, I, (upR R 1 2 0)) else (p_Md_isSet n v1 I R).bind fun x2 => (if x2 = 0 then some ((-2), I, R) else (if v1 = 0 then some ((-2), I, R) else (p_Md_in n v2 1 99).bind fun x4 => (if x4 = 0 then some ((-2), I, R) else (if (R 1 2) = 12 then some ((-4), I, R) else if ix (34 + (R 1 2)) 890 then if ix (46 + ((upR R 1 (34 + (R 1 2)).toNatClampNeg v1) 1 2)) 890 then some ((((upR (upR (upR R 1 (34 + (R 1 2)).toNatClampNeg v1) 1 (46 + ((upR R 1 (34 + (R 1 2)).toNatClampNeg v1) 1 2)).toNatClampNeg v2) 1 2 (((((upR (upR R 1 (34 + (R 1 2)).toNatClampNeg v1) 1 (46 + ((upR R 1 (34 + (R 1 2)).toNatClampNeg v1) 1 2)).toNatClampNeg v2)) 1 2) + 1)))) 1 2), I, (upR (upR (upR R 1 (34 + (R 1 2)).toNatClampNeg v1) 1 (46 + ((upR R 1 (34 + (R 1 2)).toNatClampNeg v1) 1 2)).toNatClampNeg v2) 1 2 (((((upR (upR R 1 (34 + (R 1 2)).toNatClampNeg v1) 1 (46 + ((upR R 1 (34 + (R 1 2)).toNatClampNeg v1) 1 2)).toNatClampNeg v2)) 1 2) + 1)))) else none else none)))))
set_option maxHeartbeats 4000000 in
theorem c_Md_seen (l : Launch) (n : Nat) (v1 : Int32) (v2 : Int32) (I : Nat → Int32) (R : Nat → Nat → Int32)  : MMi l y_Md_seen b_Md_seen 3 .int (rL 7) (fun ad adK => [.int v1, .int v2]) I R (p_Md_seen n v1 v2 I R) := by
  refine en_mi (by decide) rfl (fun _ _ => Nat.le_of_ble_eq_true rfl) ?_
  intro z hf p e s m args below meth c dC dI ad cI cZ A adK adV ls C hA h hr hlk hl
  have hl : lv_has ls 3 [(0, .ref (ad 0)), (1, .int v1), (2, .int v2)] := hl
  unfold p_Md_seen at hf
  obtain ⟨hx, hb, hml, hown, hT, -⟩ := id C
  refine lv_iload_n hx hb d_Md_seen_0 rfl (lv_at hl 1 rfl) ?_
  refine lv_iconst (v := (-1)) hx hb d_Md_seen_1 (by decide) ?_
  refine lv_icmp_ne (tgt := 14) hx hb d_Md_seen_2 (by decide) (fun hc => ?_) (fun hc => ?_)
  · have hf := op_f hc hf
    refine lv_aload_n hx hb d_Md_seen_14 rfl (lv_at hl 0 rfl) ?_
    refine lv_iload_n hx hb d_Md_seen_15 rfl (lv_at hl 1 rfl) ?_
    obtain ⟨x2, hc1, hf⟩ := op_bind hf
    refine kc_r (rest := []) C h hA (c_Md_isSet l n v1 I R) hc1 (cbW 1 hT cd_Md_isSet rfl rfl ini_Md ml_Md_164 hd_Md_isSet ⟨Nat.le_of_ble_eq_true rfl, Nat.le_of_ble_eq_true rfl⟩) im_Md_isSet sp_Md_isSet rfl hl.1 rfl (Nat.le_of_ble_eq_true rfl) d_Md_seen_16 ⟨Nat.zero_le _, Nat.zero_le _⟩ (fun H locs h => ?_)
    refine lv_if_eq (tgt := 36) hx hb d_Md_seen_19 (by decide) (fun hc => ?_) (fun hc => ?_)
    · have hf := op_t hc hf
      refine lv_bipush (v := (-2)) hx hb d_Md_seen_36 (by decide) ?_
      exact rt_mi C h hr hlk hf rfl d_Md_seen_38
    · have hf := op_f hc hf
      refine lv_iload_n hx hb d_Md_seen_22 rfl (lv_at hl 1 rfl) ?_
      refine lv_if_eq (tgt := 36) hx hb d_Md_seen_23 (by decide) (fun hc => ?_) (fun hc => ?_)
      · have hf := op_t hc hf
        refine lv_bipush (v := (-2)) hx hb d_Md_seen_36 (by decide) ?_
        exact rt_mi C h hr hlk hf rfl d_Md_seen_38
      · have hf := op_f hc hf
        refine lv_iload_n hx hb d_Md_seen_26 rfl (lv_at hl 2 rfl) ?_
        refine lv_iconst (v := 1) hx hb d_Md_seen_27 (by decide) ?_
        refine lv_bipush (v := 99) hx hb d_Md_seen_28 (by decide) ?_
        obtain ⟨x4, hc3, hf⟩ := op_bind hf
        refine ks_i (rest := []) hx hb hml hown hT (c_Md_in l n v2 1 99 _ hc3) (cbW 3 hT cd_Md_in rfl rfl ini_Md ml_Md_44 hd_Md_in ⟨Nat.le_of_ble_eq_true rfl, Nat.le_of_ble_eq_true rfl⟩) sm_Md_in rfl hl.1 rfl (Nat.le_of_ble_eq_true rfl) d_Md_seen_30 ⟨Nat.zero_le _, Nat.zero_le _⟩ ?_
        refine lv_if_ne (tgt := 39) hx hb d_Md_seen_33 (by decide) (fun hc => ?_) (fun hc => ?_)
        · have hf := op_f hc hf
          refine lv_aload_n hx hb d_Md_seen_39 rfl (lv_at hl 0 rfl) ?_
          refine mg_1 C h d_Md_seen_40 ?_
          refine lv_iconst (v := 2) hx hb d_Md_seen_43 (by decide) ?_
          refine ma_1 C h (j := 2) (by decide) (show ix 2 890 by decide) d_Md_seen_44 ?_
          refine lv_bipush (v := 12) hx hb d_Md_seen_45 (by decide) ?_
          refine lv_icmp_ne (tgt := 53) hx hb d_Md_seen_47 (by decide) (fun hc => ?_) (fun hc => ?_)
          · have hf := op_f hc hf
            refine lv_aload_n hx hb d_Md_seen_53 rfl (lv_at hl 0 rfl) ?_
            refine mg_1 C h d_Md_seen_54 ?_
            refine lv_bipush (v := 34) hx hb d_Md_seen_57 (by decide) ?_
            refine lv_aload_n hx hb d_Md_seen_59 rfl (lv_at hl 0 rfl) ?_
            refine mg_1 C h d_Md_seen_60 ?_
            refine lv_iconst (v := 2) hx hb d_Md_seen_63 (by decide) ?_
            refine ma_1 C h (j := 2) (by decide) (show ix 2 890 by decide) d_Md_seen_64 ?_
            refine lv_iadd hx hb d_Md_seen_65 ?_
            refine lv_iload_n hx hb d_Md_seen_66 rfl (lv_at hl 1 rfl) ?_
            obtain ⟨h5, hf⟩ := op_if hf
            refine ms_1 C h rfl h5 d_Md_seen_67 (fun H locs h => ?_)
            refine lv_aload_n hx hb d_Md_seen_68 rfl (lv_at hl 0 rfl) ?_
            refine mg_1 C h d_Md_seen_69 ?_
            refine lv_bipush (v := 46) hx hb d_Md_seen_72 (by decide) ?_
            refine lv_aload_n hx hb d_Md_seen_74 rfl (lv_at hl 0 rfl) ?_
            refine mg_1 C h d_Md_seen_75 ?_
            refine lv_iconst (v := 2) hx hb d_Md_seen_78 (by decide) ?_
            refine ma_1 C h (j := 2) (by decide) (show ix 2 890 by decide) d_Md_seen_79 ?_
            refine lv_iadd hx hb d_Md_seen_80 ?_
            refine lv_iload_n hx hb d_Md_seen_81 rfl (lv_at hl 2 rfl) ?_
            obtain ⟨h6, hf⟩ := op_if hf
            refine ms_1 C h rfl h6 d_Md_seen_82 (fun H locs h => ?_)
            refine lv_aload_n hx hb d_Md_seen_83 rfl (lv_at hl 0 rfl) ?_
            refine mg_1 C h d_Md_seen_84 ?_
            refine lv_iconst (v := 2) hx hb d_Md_seen_87 (by decide) ?_
            refine lv_dup2_11 hx hb d_Md_seen_88 rfl rfl ?_
            refine ma_1 C h (j := 2) (by decide) (show ix 2 890 by decide) d_Md_seen_89 ?_
            refine lv_iconst (v := 1) hx hb d_Md_seen_90 (by decide) ?_
            refine lv_iadd hx hb d_Md_seen_91 ?_
            refine ms_1 C h (j := 2) (by decide) (show ix 2 890 by decide) d_Md_seen_92 (fun H locs h => ?_)
            refine lv_aload_n hx hb d_Md_seen_93 rfl (lv_at hl 0 rfl) ?_
            refine mg_1 C h d_Md_seen_94 ?_
            refine lv_iconst (v := 2) hx hb d_Md_seen_97 (by decide) ?_
            refine ma_1 C h (j := 2) (by decide) (show ix 2 890 by decide) d_Md_seen_98 ?_
            exact rt_mi C h hr hlk hf rfl d_Md_seen_99
          · have hf := op_t hc hf
            refine lv_bipush (v := (-4)) hx hb d_Md_seen_50 (by decide) ?_
            exact rt_mi C h hr hlk hf rfl d_Md_seen_52
        · have hf := op_t hc hf
          refine lv_bipush (v := (-2)) hx hb d_Md_seen_36 (by decide) ?_
          exact rt_mi C h hr hlk hf rfl d_Md_seen_38
  · have hf := op_t hc hf
    refine lv_aload_n hx hb d_Md_seen_5 rfl (lv_at hl 0 rfl) ?_
    refine mg_1 C h d_Md_seen_6 ?_
    refine lv_iconst (v := 2) hx hb d_Md_seen_9 (by decide) ?_
    refine lv_iconst (v := 0) hx hb d_Md_seen_10 (by decide) ?_
    refine ms_1 C h (j := 2) (by decide) (show ix 2 890 by decide) d_Md_seen_11 (fun H locs h => ?_)
    refine lv_iconst (v := 0) hx hb d_Md_seen_12 (by decide) ?_
    exact rt_mi C h hr hlk hf rfl d_Md_seen_13
theorem hd_Md_span : y_Md_span.cls ≠ "java/lang/invoke/MethodHandle" ∧ y_Md_span.cls ≠ "java/lang/invoke/VarHandle" ∧ (parseMethodDescriptor y_Md_span.desc).map (fun d => d.parameters.length) = some 2 := by decide +kernel
theorem d_Md_span_0 : decode b_Md_span 0 = .ok (.aload_n 0, 1) := by decide +kernel
theorem d_Md_span_1 : decode b_Md_span 1 = .ok (.iload_n 1, 1) := by decide +kernel
theorem d_Md_span_2 : decode b_Md_span 2 = .ok (.invokevirtual 131, 3) := by decide +kernel
theorem d_Md_span_5 : decode b_Md_span 5 = .ok (.ifCond .eq 12, 3) := by decide +kernel
theorem d_Md_span_8 : decode b_Md_span 8 = .ok (.iload_n 2, 1) := by decide +kernel
theorem d_Md_span_9 : decode b_Md_span 9 = .ok (.iconst 0, 1) := by decide +kernel
theorem d_Md_span_10 : decode b_Md_span 10 = .ok (.iconst 1, 1) := by decide +kernel
theorem d_Md_span_11 : decode b_Md_span 11 = .ok (.invokestatic 44, 3) := by decide +kernel
theorem d_Md_span_14 : decode b_Md_span 14 = .ok (.ifCond .ne 5, 3) := by decide +kernel
theorem d_Md_span_17 : decode b_Md_span 17 = .ok (.iconst (-1), 1) := by decide +kernel
theorem d_Md_span_18 : decode b_Md_span 18 = .ok (.ireturn, 1) := by decide +kernel
theorem d_Md_span_19 : decode b_Md_span 19 = .ok (.iconst 0, 1) := by decide +kernel
theorem d_Md_span_20 : decode b_Md_span 20 = .ok (.istore_n 3, 1) := by decide +kernel
theorem d_Md_span_21 : decode b_Md_span 21 = .ok (.iconst 0, 1) := by decide +kernel
theorem d_Md_span_22 : decode b_Md_span 22 = .ok (.istore 4, 2) := by decide +kernel
theorem d_Md_span_24 : decode b_Md_span 24 = .ok (.iconst 0, 1) := by decide +kernel
theorem d_Md_span_25 : decode b_Md_span 25 = .ok (.istore 5, 2) := by decide +kernel
theorem d_Md_span_27 : decode b_Md_span 27 = .ok (.iload 5, 2) := by decide +kernel
theorem d_Md_span_29 : decode b_Md_span 29 = .ok (.aload_n 0, 1) := by decide +kernel
theorem d_Md_span_30 : decode b_Md_span 30 = .ok (.getfield 9, 3) := by decide +kernel
theorem d_Md_span_33 : decode b_Md_span 33 = .ok (.iconst 2, 1) := by decide +kernel
theorem d_Md_span_34 : decode b_Md_span 34 = .ok (.iaload, 1) := by decide +kernel
theorem d_Md_span_35 : decode b_Md_span 35 = .ok (.if_icmp .ge 52, 3) := by decide +kernel
theorem d_Md_span_38 : decode b_Md_span 38 = .ok (.aload_n 0, 1) := by decide +kernel
theorem d_Md_span_39 : decode b_Md_span 39 = .ok (.iload 5, 2) := by decide +kernel
theorem d_Md_span_41 : decode b_Md_span 41 = .ok (.invokevirtual 233, 3) := by decide +kernel
theorem d_Md_span_44 : decode b_Md_span 44 = .ok (.istore 6, 2) := by decide +kernel
theorem d_Md_span_46 : decode b_Md_span 46 = .ok (.iload_n 3, 1) := by decide +kernel
theorem d_Md_span_47 : decode b_Md_span 47 = .ok (.ifCond .ne 8, 3) := by decide +kernel
theorem d_Md_span_50 : decode b_Md_span 50 = .ok (.iload 6, 2) := by decide +kernel
theorem d_Md_span_52 : decode b_Md_span 52 = .ok (.ifCond .ne 7, 3) := by decide +kernel
theorem d_Md_span_55 : decode b_Md_span 55 = .ok (.iconst 1, 1) := by decide +kernel
theorem d_Md_span_56 : decode b_Md_span 56 = .ok (.goto 4, 3) := by decide +kernel
theorem d_Md_span_59 : decode b_Md_span 59 = .ok (.iconst 0, 1) := by decide +kernel
theorem d_Md_span_60 : decode b_Md_span 60 = .ok (.istore_n 3, 1) := by decide +kernel
theorem d_Md_span_61 : decode b_Md_span 61 = .ok (.iload 4, 2) := by decide +kernel
theorem d_Md_span_63 : decode b_Md_span 63 = .ok (.ifCond .ne 11, 3) := by decide +kernel
theorem d_Md_span_66 : decode b_Md_span 66 = .ok (.iload 6, 2) := by decide +kernel
theorem d_Md_span_68 : decode b_Md_span 68 = .ok (.iconst 1, 1) := by decide +kernel
theorem d_Md_span_69 : decode b_Md_span 69 = .ok (.iload_n 1, 1) := by decide +kernel
theorem d_Md_span_70 : decode b_Md_span 70 = .ok (.ishl, 1) := by decide +kernel
theorem d_Md_span_71 : decode b_Md_span 71 = .ok (.if_icmp .ne 7, 3) := by decide +kernel
theorem d_Md_span_74 : decode b_Md_span 74 = .ok (.iconst 1, 1) := by decide +kernel
theorem d_Md_span_75 : decode b_Md_span 75 = .ok (.goto 4, 3) := by decide +kernel
theorem d_Md_span_78 : decode b_Md_span 78 = .ok (.iconst 0, 1) := by decide +kernel
theorem d_Md_span_79 : decode b_Md_span 79 = .ok (.istore 4, 2) := by decide +kernel
theorem d_Md_span_81 : decode b_Md_span 81 = .ok (.iinc 5 1, 3) := by decide +kernel
theorem d_Md_span_84 : decode b_Md_span 84 = .ok (.goto (-57), 3) := by decide +kernel
theorem d_Md_span_87 : decode b_Md_span 87 = .ok (.iload_n 3, 1) := by decide +kernel
theorem d_Md_span_88 : decode b_Md_span 88 = .ok (.ifCond .eq 7, 3) := by decide +kernel
theorem d_Md_span_91 : decode b_Md_span 91 = .ok (.iconst 0, 1) := by decide +kernel
theorem d_Md_span_92 : decode b_Md_span 92 = .ok (.goto 22, 3) := by decide +kernel
theorem d_Md_span_95 : decode b_Md_span 95 = .ok (.iload_n 2, 1) := by decide +kernel
theorem d_Md_span_96 : decode b_Md_span 96 = .ok (.iconst 1, 1) := by decide +kernel
theorem d_Md_span_97 : decode b_Md_span 97 = .ok (.if_icmp .eq 8, 3) := by decide +kernel
theorem d_Md_span_100 : decode b_Md_span 100 = .ok (.iload 4, 2) := by decide +kernel
theorem d_Md_span_102 : decode b_Md_span 102 = .ok (.ifCond .eq 11, 3) := by decide +kernel
theorem d_Md_span_105 : decode b_Md_span 105 = .ok (.aload_n 0, 1) := by decide +kernel
theorem d_Md_span_106 : decode b_Md_span 106 = .ok (.iload_n 1, 1) := by decide +kernel
theorem d_Md_span_107 : decode b_Md_span 107 = .ok (.invokevirtual 230, 3) := by decide +kernel
theorem d_Md_span_110 : decode b_Md_span 110 = .ok (.goto 4, 3) := by decide +kernel
theorem d_Md_span_113 : decode b_Md_span 113 = .ok (.iconst 1, 1) := by decide +kernel
theorem d_Md_span_114 : decode b_Md_span 114 = .ok (.ireturn, 1) := by decide +kernel
def l_Md_span_27 (n : Nat)  (v1 : Int32) (v2 : Int32) (I : Nat → Int32) (R : Nat → Nat → Int32) : Nat → Int32 → Int32 → Int32 → Option (Int32 × Int32)
  | 0, _, _, _ => none
  | k + 1, v3, v4, v5 => (if (R 1 2) ≤ v5 then some (v3, v4) else (p_Md_makersOf n v5 I R).bind fun x6 => (if v3 = 0 then (if x6 = 0 then some 1 else some 0) else some 1 : Option (Int32)).bind fun x8 => (if v4 = 0 then (if x6 = (1 <<< (v1 &&& 31)) then some 1 else some 0) else some 1 : Option (Int32)).bind fun x10 => l_Md_span_27 n v1 v2 I R k x8 x10 (v5 + 1))
set_option maxHeartbeats 4000000 in
theorem wl_Md_span_27 {Q : State → Prop}  {p : Program} {l : Launch} {e : Env} {s : State} {m : MethodId} {args : Array Value} {below : List Frame} {meth : Method} {c : Code} {dC : Nat → ClassId} {dI : Nat → Nat → Nat} {ad : Nat → Nat} {cI cZ : ClassId} {A : Nat → Prop} {adK adV : Nat → Nat} (C : mC p s m args c b_Md_span 7 dC dI cI cZ A adK adV) (hA : ∀ q, s.heap.size ≤ q → A q) (hr : meth.sig.returnType = some .int) (hlk : meth.locks = false) (n : Nat)  (v1 : Int32) (v2 : Int32) (I : Nat → Int32) (R : Nat → Nat → Int32) : ∀ (k : Nat) (v3 : Int32) (v4 : Int32) (v5 : Int32) (r0 : Int32) (r1 : Int32), l_Md_span_27 n v1 v2 I R k v3 v4 v5 = some (r0, r1) → (∀ (ls : Array Slot), lv_has ls 7 [(0, .ref (ad 0)), (1, .int v1), (2, .int v2), (3, .int r0), (4, .int r1)] → ∀ (H : Heap) (locs : List Loc), mH A s.heap dC dI ad cI cZ I R H locs → W p l e (rL 7) s m args below meth c H locs 0 0 Q (F0 m 87 ls [])) → ∀ (ls : Array Slot), lv_has ls 7 [(0, .ref (ad 0)), (1, .int v1), (2, .int v2), (3, .int v3), (4, .int v4), (5, .int v5)] → ∀ (H : Heap) (locs : List Loc), mH A s.heap dC dI ad cI cZ I R H locs → W p l e (rL 7) s m args below meth c H locs 0 0 Q (F0 m 27 ls []) := by
  obtain ⟨hx, hb, hml, hown, hT, -⟩ := id C
  intro k
  induction k with
  | zero => intro v3 v4 v5 r0 r1 hf; exact absurd hf (by unfold l_Md_span_27; exact fun h9 => by cases h9)
  | succ k ih =>
    intro v3 v4 v5 r0 r1 hf K ls hl H locs h
    unfold l_Md_span_27 at hf
    refine lv_iload hx hb d_Md_span_27 (lv_at hl 5 rfl) ?_
    refine lv_aload_n hx hb d_Md_span_29 rfl (lv_at hl 0 rfl) ?_
    refine mg_1 C h d_Md_span_30 ?_
    refine lv_iconst (v := 2) hx hb d_Md_span_33 (by decide) ?_
    refine ma_1 C h (j := 2) (by decide) (show ix 2 890 by decide) d_Md_span_34 ?_
    refine lv_icmp_ge (tgt := 87) hx hb d_Md_span_35 (by decide) (fun hc => ?_) (fun hc => ?_)
    · have hf := op_t hc hf
      obtain ⟨rfl, rfl⟩ := op_i2 hf
      exact K ls (lv_sub hl [0, 1, 2, 3, 4] rfl) H locs h
    · have hf := op_f hc hf
      refine lv_aload_n hx hb d_Md_span_38 rfl (lv_at hl 0 rfl) ?_
      refine lv_iload hx hb d_Md_span_39 (lv_at hl 5 rfl) ?_
      obtain ⟨x6, hc5, hf⟩ := op_bind hf
      refine kc_r (rest := []) C h hA (c_Md_makersOf l n v5 I R) hc5 (cbW 1 hT cd_Md_makersOf rfl rfl ini_Md ml_Md_233 hd_Md_makersOf ⟨Nat.le_of_ble_eq_true rfl, Nat.le_of_ble_eq_true rfl⟩) im_Md_makersOf sp_Md_makersOf rfl hl.1 rfl (Nat.le_of_ble_eq_true rfl) d_Md_span_41 ⟨Nat.zero_le _, Nat.zero_le _⟩ (fun H locs h => ?_)
      refine lv_istore (lv' := [(6, .int x6), (0, .ref (ad 0)), (1, .int v1), (2, .int v2), (3, .int v3), (4, .int v4), (5, .int v5)]) hx hb d_Md_span_44 hl (by decide) rfl (fun ls hl => ?_)
      refine lv_iload_n hx hb d_Md_span_46 rfl (lv_at hl 4 rfl) ?_
      obtain ⟨x8, he, hf⟩ := op_bind hf
      have K7 : ∀ (ls : Array Slot), lv_has ls 7 [(0, .ref (ad 0)), (1, .int v1), (2, .int v2), (4, .int v4), (5, .int v5), (6, .int x6)] → ∀ (H : Heap) (locs : List Loc), mH A s.heap dC dI ad cI cZ I R H locs → W p l e (rL 7) s m args below meth c H locs 0 0 Q (F0 m 60 ls [.int x8]) := by
        intro ls hl H locs h
        refine lv_istore_n (lv' := [(3, .int x8), (0, .ref (ad 0)), (1, .int v1), (2, .int v2), (4, .int v4), (5, .int v5), (6, .int x6)]) hx hb d_Md_span_60 rfl hl (by decide) rfl (fun ls hl => ?_)
        refine lv_iload hx hb d_Md_span_61 (lv_at hl 4 rfl) ?_
        obtain ⟨x10, he, hf⟩ := op_bind hf
        have K9 : ∀ (ls : Array Slot), lv_has ls 7 [(0, .ref (ad 0)), (1, .int v1), (2, .int v2), (3, .int x8), (5, .int v5)] → ∀ (H : Heap) (locs : List Loc), mH A s.heap dC dI ad cI cZ I R H locs → W p l e (rL 7) s m args below meth c H locs 0 0 Q (F0 m 79 ls [.int x10]) := by
          intro ls hl H locs h
          refine lv_istore (lv' := [(4, .int x10), (0, .ref (ad 0)), (1, .int v1), (2, .int v2), (3, .int x8), (5, .int v5)]) hx hb d_Md_span_79 hl (by decide) rfl (fun ls hl => ?_)
          refine lv_iinc (v := (v5 + 1)) (lv' := [(5, .int (v5 + 1)), (4, .int x10), (0, .ref (ad 0)), (1, .int v1), (2, .int v2), (3, .int x8)]) hx hb d_Md_span_81 hl (k := 5) rfl rfl (by decide) rfl (fun ls hl => ?_)
          refine lv_goto (tgt := 27) hx hb d_Md_span_84 (by decide) ?_
          exact ih x8 x10 (v5 + 1) _ _ hf K ls (lv_sub hl [2, 3, 4, 5, 1, 0] rfl) H locs h
        have hf := he
        refine lv_if_ne (tgt := 74) hx hb d_Md_span_63 (by decide) (fun hc => ?_) (fun hc => ?_)
        · have hf := op_f hc hf
          refine lv_iconst (v := 1) hx hb d_Md_span_74 (by decide) ?_
          refine lv_goto (tgt := 79) hx hb d_Md_span_75 (by decide) ?_
          obtain rfl := op_i1 hf
          exact K9 ls (lv_sub hl [1, 2, 3, 0, 5] rfl) H locs h
        · have hf := op_t hc hf
          refine lv_iload hx hb d_Md_span_66 (lv_at hl 6 rfl) ?_
          refine lv_iconst (v := 1) hx hb d_Md_span_68 (by decide) ?_
          refine lv_iload_n hx hb d_Md_span_69 rfl (lv_at hl 2 rfl) ?_
          refine lv_ishl hx hb d_Md_span_70 ?_
          refine lv_icmp_ne (tgt := 78) hx hb d_Md_span_71 (by decide) (fun hc => ?_) (fun hc => ?_)
          · have hf := op_f hc hf
            refine lv_iconst (v := 0) hx hb d_Md_span_78 (by decide) ?_
            obtain rfl := op_i1 hf
            exact K9 ls (lv_sub hl [1, 2, 3, 0, 5] rfl) H locs h
          · have hf := op_t hc hf
            refine lv_iconst (v := 1) hx hb d_Md_span_74 (by decide) ?_
            refine lv_goto (tgt := 79) hx hb d_Md_span_75 (by decide) ?_
            obtain rfl := op_i1 hf
            exact K9 ls (lv_sub hl [1, 2, 3, 0, 5] rfl) H locs h
      have hf := he
      refine lv_if_ne (tgt := 55) hx hb d_Md_span_47 (by decide) (fun hc => ?_) (fun hc => ?_)
      · have hf := op_f hc hf
        refine lv_iconst (v := 1) hx hb d_Md_span_55 (by decide) ?_
        refine lv_goto (tgt := 60) hx hb d_Md_span_56 (by decide) ?_
        obtain rfl := op_i1 hf
        exact K7 ls (lv_sub hl [1, 2, 3, 5, 6, 0] rfl) H locs h
      · have hf := op_t hc hf
        refine lv_iload hx hb d_Md_span_50 (lv_at hl 0 rfl) ?_
        refine lv_if_ne (tgt := 59) hx hb d_Md_span_52 (by decide) (fun hc => ?_) (fun hc => ?_)
        · have hf := op_f hc hf
          refine lv_iconst (v := 0) hx hb d_Md_span_59 (by decide) ?_
          obtain rfl := op_i1 hf
          exact K7 ls (lv_sub hl [1, 2, 3, 5, 6, 0] rfl) H locs h
        · have hf := op_t hc hf
          refine lv_iconst (v := 1) hx hb d_Md_span_55 (by decide) ?_
          refine lv_goto (tgt := 60) hx hb d_Md_span_56 (by decide) ?_
          obtain rfl := op_i1 hf
          exact K7 ls (lv_sub hl [1, 2, 3, 5, 6, 0] rfl) H locs h
def p_Md_span (n : Nat) (v1 : Int32) (v2 : Int32) (I : Nat → Int32) (R : Nat → Nat → Int32) : Option (Int32) := (p_Md_isPerson n v1 I R).bind fun x2 => (if x2 = 0 then some (-1) else (p_Md_in n v2 0 1).bind fun x4 => (if x4 = 0 then some (-1) else (l_Md_span_27 n v1 v2 I R n 0 0 0).bind fun (y11, y12) => (if y11 = 0 then (if v2 = 1 then (p_Md_mostOf n v1 I R).bind fun x16 => some x16 else (if y12 = 0 then some 1 else (p_Md_mostOf n v1 I R).bind fun x18 => some x18)) else some 0 : Option (Int32)).bind fun x14 => some x14))
set_option maxHeartbeats 4000000 in
theorem c_Md_span (l : Launch) (n : Nat) (v1 : Int32) (v2 : Int32) (I : Nat → Int32) (R : Nat → Nat → Int32)  : MMi l y_Md_span b_Md_span 7 .int (rL 7) (fun ad adK => [.int v1, .int v2]) I R ((p_Md_span n v1 v2 I R).map fun r => (r, I, R)) := by
  refine en_mi (by decide) rfl (fun _ _ => Nat.le_of_ble_eq_true rfl) ?_
  intro z hz p e s m args below meth c dC dI ad cI cZ A adK adV ls C hA h hr hlk hl
  have hl : lv_has ls 7 [(0, .ref (ad 0)), (1, .int v1), (2, .int v2)] := hl
  obtain ⟨z, hf, rfl⟩ := op_map hz
  unfold p_Md_span at hf
  obtain ⟨hx, hb, hml, hown, hT, -⟩ := id C
  refine lv_aload_n hx hb d_Md_span_0 rfl (lv_at hl 0 rfl) ?_
  refine lv_iload_n hx hb d_Md_span_1 rfl (lv_at hl 1 rfl) ?_
  obtain ⟨x2, hc1, hf⟩ := op_bind hf
  refine kc_r (rest := []) C h hA (c_Md_isPerson l n v1 I R) hc1 (cbW 1 hT cd_Md_isPerson rfl rfl ini_Md ml_Md_131 hd_Md_isPerson ⟨Nat.le_of_ble_eq_true rfl, Nat.le_of_ble_eq_true rfl⟩) im_Md_isPerson sp_Md_isPerson rfl hl.1 rfl (Nat.le_of_ble_eq_true rfl) d_Md_span_2 ⟨Nat.zero_le _, Nat.zero_le _⟩ (fun H locs h => ?_)
  refine lv_if_eq (tgt := 17) hx hb d_Md_span_5 (by decide) (fun hc => ?_) (fun hc => ?_)
  · have hf := op_t hc hf
    refine lv_iconst (v := (-1)) hx hb d_Md_span_17 (by decide) ?_
    exact rt_mr C h hr hlk hf rfl d_Md_span_18
  · have hf := op_f hc hf
    refine lv_iload_n hx hb d_Md_span_8 rfl (lv_at hl 2 rfl) ?_
    refine lv_iconst (v := 0) hx hb d_Md_span_9 (by decide) ?_
    refine lv_iconst (v := 1) hx hb d_Md_span_10 (by decide) ?_
    obtain ⟨x4, hc3, hf⟩ := op_bind hf
    refine ks_i (rest := []) hx hb hml hown hT (c_Md_in l n v2 0 1 _ hc3) (cbW 3 hT cd_Md_in rfl rfl ini_Md ml_Md_44 hd_Md_in ⟨Nat.le_of_ble_eq_true rfl, Nat.le_of_ble_eq_true rfl⟩) sm_Md_in rfl hl.1 rfl (Nat.le_of_ble_eq_true rfl) d_Md_span_11 ⟨Nat.zero_le _, Nat.zero_le _⟩ ?_
    refine lv_if_ne (tgt := 19) hx hb d_Md_span_14 (by decide) (fun hc => ?_) (fun hc => ?_)
    · have hf := op_f hc hf
      refine lv_iconst (v := 0) hx hb d_Md_span_19 (by decide) ?_
      refine lv_istore_n (lv' := [(3, .int 0), (0, .ref (ad 0)), (1, .int v1), (2, .int v2)]) hx hb d_Md_span_20 rfl hl (by decide) rfl (fun ls hl => ?_)
      refine lv_iconst (v := 0) hx hb d_Md_span_21 (by decide) ?_
      refine lv_istore (lv' := [(4, .int 0), (3, .int 0), (0, .ref (ad 0)), (1, .int v1), (2, .int v2)]) hx hb d_Md_span_22 hl (by decide) rfl (fun ls hl => ?_)
      refine lv_iconst (v := 0) hx hb d_Md_span_24 (by decide) ?_
      refine lv_istore (lv' := [(5, .int 0), (4, .int 0), (3, .int 0), (0, .ref (ad 0)), (1, .int v1), (2, .int v2)]) hx hb d_Md_span_25 hl (by decide) rfl (fun ls hl => ?_)
      obtain ⟨⟨y11, y12⟩, he, hf⟩ := op_bind hf
      try dsimp only at hf
      refine wl_Md_span_27 C hA hr hlk n v1 v2 I R n 0 0 0 _ _ he (fun ls hl H locs h => ?_) ls (lv_sub hl [3, 4, 5, 2, 1, 0] rfl) H locs h
      refine lv_iload_n hx hb d_Md_span_87 rfl (lv_at hl 3 rfl) ?_
      obtain ⟨x14, he, hf⟩ := op_bind hf
      have K13 : ∀ (ls : Array Slot), lv_has ls 7 [] → ∀ (H : Heap) (locs : List Loc), mH A s.heap dC dI ad cI cZ I R H locs → W p l e (rL 7) s m args below meth c H locs 0 0 (mQi dC dI ad cI cZ A below args s (z, I, R)) (F0 m 114 ls [.int x14]) := by
        intro ls hl H locs h
        exact rt_mr C h hr hlk hf rfl d_Md_span_114
      have hf := he
      refine lv_if_eq (tgt := 95) hx hb d_Md_span_88 (by decide) (fun hc => ?_) (fun hc => ?_)
      · have hf := op_t hc hf
        refine lv_iload_n hx hb d_Md_span_95 rfl (lv_at hl 2 rfl) ?_
        refine lv_iconst (v := 1) hx hb d_Md_span_96 (by decide) ?_
        refine lv_icmp_eq (tgt := 105) hx hb d_Md_span_97 (by decide) (fun hc => ?_) (fun hc => ?_)
        · have hf := op_t hc hf
          refine lv_aload_n hx hb d_Md_span_105 rfl (lv_at hl 0 rfl) ?_
          refine lv_iload_n hx hb d_Md_span_106 rfl (lv_at hl 1 rfl) ?_
          obtain ⟨x16, hc15, hf⟩ := op_bind hf
          refine kc_r (rest := []) C h hA (c_Md_mostOf l n v1 I R) hc15 (cbW 1 hT cd_Md_mostOf rfl rfl ini_Md ml_Md_230 hd_Md_mostOf ⟨Nat.le_of_ble_eq_true rfl, Nat.le_of_ble_eq_true rfl⟩) im_Md_mostOf sp_Md_mostOf rfl hl.1 rfl (Nat.le_of_ble_eq_true rfl) d_Md_span_107 ⟨Nat.zero_le _, Nat.zero_le _⟩ (fun H locs h => ?_)
          refine lv_goto (tgt := 114) hx hb d_Md_span_110 (by decide) ?_
          obtain rfl := op_i1 hf
          exact K13 ls (lv_sub hl [] rfl) H locs h
        · have hf := op_f hc hf
          refine lv_iload hx hb d_Md_span_100 (lv_at hl 4 rfl) ?_
          refine lv_if_eq (tgt := 113) hx hb d_Md_span_102 (by decide) (fun hc => ?_) (fun hc => ?_)
          · have hf := op_t hc hf
            refine lv_iconst (v := 1) hx hb d_Md_span_113 (by decide) ?_
            obtain rfl := op_i1 hf
            exact K13 ls (lv_sub hl [] rfl) H locs h
          · have hf := op_f hc hf
            refine lv_aload_n hx hb d_Md_span_105 rfl (lv_at hl 0 rfl) ?_
            refine lv_iload_n hx hb d_Md_span_106 rfl (lv_at hl 1 rfl) ?_
            obtain ⟨x18, hc17, hf⟩ := op_bind hf
            refine kc_r (rest := []) C h hA (c_Md_mostOf l n v1 I R) hc17 (cbW 1 hT cd_Md_mostOf rfl rfl ini_Md ml_Md_230 hd_Md_mostOf ⟨Nat.le_of_ble_eq_true rfl, Nat.le_of_ble_eq_true rfl⟩) im_Md_mostOf sp_Md_mostOf rfl hl.1 rfl (Nat.le_of_ble_eq_true rfl) d_Md_span_107 ⟨Nat.zero_le _, Nat.zero_le _⟩ (fun H locs h => ?_)
            refine lv_goto (tgt := 114) hx hb d_Md_span_110 (by decide) ?_
            obtain rfl := op_i1 hf
            exact K13 ls (lv_sub hl [] rfl) H locs h
      · have hf := op_f hc hf
        refine lv_iconst (v := 0) hx hb d_Md_span_91 (by decide) ?_
        refine lv_goto (tgt := 114) hx hb d_Md_span_92 (by decide) ?_
        obtain rfl := op_i1 hf
        exact K13 ls (lv_sub hl [] rfl) H locs h
    · have hf := op_t hc hf
      refine lv_iconst (v := (-1)) hx hb d_Md_span_17 (by decide) ?_
      exact rt_mr C h hr hlk hf rfl d_Md_span_18
theorem hd_Md_book : y_Md_book.cls ≠ "java/lang/invoke/MethodHandle" ∧ y_Md_book.cls ≠ "java/lang/invoke/VarHandle" ∧ (parseMethodDescriptor y_Md_book.desc).map (fun d => d.parameters.length) = some 1 := by decide +kernel
theorem d_Md_book_0 : decode b_Md_book 0 = .ok (.iload_n 1, 1) := by decide +kernel
theorem d_Md_book_1 : decode b_Md_book 1 = .ok (.iconst (-1), 1) := by decide +kernel
theorem d_Md_book_2 : decode b_Md_book 2 = .ok (.if_icmp .ne 12, 3) := by decide +kernel
theorem d_Md_book_5 : decode b_Md_book 5 = .ok (.aload_n 0, 1) := by decide +kernel
theorem d_Md_book_6 : decode b_Md_book 6 = .ok (.getfield 9, 3) := by decide +kernel
theorem d_Md_book_9 : decode b_Md_book 9 = .ok (.iconst 3, 1) := by decide +kernel
theorem d_Md_book_10 : decode b_Md_book 10 = .ok (.iconst 0, 1) := by decide +kernel
theorem d_Md_book_11 : decode b_Md_book 11 = .ok (.iastore, 1) := by decide +kernel
theorem d_Md_book_12 : decode b_Md_book 12 = .ok (.iconst 0, 1) := by decide +kernel
theorem d_Md_book_13 : decode b_Md_book 13 = .ok (.ireturn, 1) := by decide +kernel
theorem d_Md_book_14 : decode b_Md_book 14 = .ok (.aload_n 0, 1) := by decide +kernel
theorem d_Md_book_15 : decode b_Md_book 15 = .ok (.iload_n 1, 1) := by decide +kernel
theorem d_Md_book_16 : decode b_Md_book 16 = .ok (.invokevirtual 164, 3) := by decide +kernel
theorem d_Md_book_19 : decode b_Md_book 19 = .ok (.ifCond .eq 7, 3) := by decide +kernel
theorem d_Md_book_22 : decode b_Md_book 22 = .ok (.iload_n 1, 1) := by decide +kernel
theorem d_Md_book_23 : decode b_Md_book 23 = .ok (.ifCond .ne 6, 3) := by decide +kernel
theorem d_Md_book_26 : decode b_Md_book 26 = .ok (.bipush (-2), 2) := by decide +kernel
theorem d_Md_book_28 : decode b_Md_book 28 = .ok (.ireturn, 1) := by decide +kernel
theorem d_Md_book_29 : decode b_Md_book 29 = .ok (.aload_n 0, 1) := by decide +kernel
theorem d_Md_book_30 : decode b_Md_book 30 = .ok (.getfield 9, 3) := by decide +kernel
theorem d_Md_book_33 : decode b_Md_book 33 = .ok (.iconst 3, 1) := by decide +kernel
theorem d_Md_book_34 : decode b_Md_book 34 = .ok (.iaload, 1) := by decide +kernel
theorem d_Md_book_35 : decode b_Md_book 35 = .ok (.bipush 12, 2) := by decide +kernel
theorem d_Md_book_37 : decode b_Md_book 37 = .ok (.if_icmp .ne 6, 3) := by decide +kernel
theorem d_Md_book_40 : decode b_Md_book 40 = .ok (.bipush (-4), 2) := by decide +kernel
theorem d_Md_book_42 : decode b_Md_book 42 = .ok (.ireturn, 1) := by decide +kernel
theorem d_Md_book_43 : decode b_Md_book 43 = .ok (.aload_n 0, 1) := by decide +kernel
theorem d_Md_book_44 : decode b_Md_book 44 = .ok (.getfield 9, 3) := by decide +kernel
theorem d_Md_book_47 : decode b_Md_book 47 = .ok (.bipush 58, 2) := by decide +kernel
theorem d_Md_book_49 : decode b_Md_book 49 = .ok (.aload_n 0, 1) := by decide +kernel
theorem d_Md_book_50 : decode b_Md_book 50 = .ok (.getfield 9, 3) := by decide +kernel
theorem d_Md_book_53 : decode b_Md_book 53 = .ok (.iconst 3, 1) := by decide +kernel
theorem d_Md_book_54 : decode b_Md_book 54 = .ok (.iaload, 1) := by decide +kernel
theorem d_Md_book_55 : decode b_Md_book 55 = .ok (.iadd, 1) := by decide +kernel
theorem d_Md_book_56 : decode b_Md_book 56 = .ok (.iload_n 1, 1) := by decide +kernel
theorem d_Md_book_57 : decode b_Md_book 57 = .ok (.iastore, 1) := by decide +kernel
theorem d_Md_book_58 : decode b_Md_book 58 = .ok (.aload_n 0, 1) := by decide +kernel
theorem d_Md_book_59 : decode b_Md_book 59 = .ok (.getfield 9, 3) := by decide +kernel
theorem d_Md_book_62 : decode b_Md_book 62 = .ok (.iconst 3, 1) := by decide +kernel
theorem d_Md_book_63 : decode b_Md_book 63 = .ok (.dup2, 1) := by decide +kernel
theorem d_Md_book_64 : decode b_Md_book 64 = .ok (.iaload, 1) := by decide +kernel
theorem d_Md_book_65 : decode b_Md_book 65 = .ok (.iconst 1, 1) := by decide +kernel
theorem d_Md_book_66 : decode b_Md_book 66 = .ok (.iadd, 1) := by decide +kernel
theorem d_Md_book_67 : decode b_Md_book 67 = .ok (.iastore, 1) := by decide +kernel
theorem d_Md_book_68 : decode b_Md_book 68 = .ok (.aload_n 0, 1) := by decide +kernel
theorem d_Md_book_69 : decode b_Md_book 69 = .ok (.getfield 9, 3) := by decide +kernel
theorem d_Md_book_72 : decode b_Md_book 72 = .ok (.iconst 3, 1) := by decide +kernel
theorem d_Md_book_73 : decode b_Md_book 73 = .ok (.iaload, 1) := by decide +kernel
theorem d_Md_book_74 : decode b_Md_book 74 = .ok (.ireturn, 1) := by decide +kernel
def p_Md_book (n : Nat) (v1 : Int32) (I : Nat → Int32) (R : Nat → Nat → Int32) : Option (Int32 × MU) := (if v1 = (-1) then some (0, I, (upR R 1 3 0)) else (p_Md_isSet n v1 I R).bind fun x2 => (if x2 = 0 then some ((-2), I, R) else (if v1 = 0 then some ((-2), I, R) else (if (R 1 3) = 12 then some ((-4), I, R) else if ix (58 + (R 1 3)) 890 then some ((((upR (upR R 1 (58 + (R 1 3)).toNatClampNeg v1) 1 3 (((upR R 1 (58 + (R 1 3)).toNatClampNeg v1) 1 3) + 1))) 1 3), I, (upR (upR R 1 (58 + (R 1 3)).toNatClampNeg v1) 1 3 (((upR R 1 (58 + (R 1 3)).toNatClampNeg v1) 1 3) + 1))) else none))))
set_option maxHeartbeats 4000000 in
theorem c_Md_book (l : Launch) (n : Nat) (v1 : Int32) (I : Nat → Int32) (R : Nat → Nat → Int32)  : MMi l y_Md_book b_Md_book 2 .int (rL 7) (fun ad adK => [.int v1]) I R (p_Md_book n v1 I R) := by
  refine en_mi (by decide) rfl (fun _ _ => Nat.le_of_ble_eq_true rfl) ?_
  intro z hf p e s m args below meth c dC dI ad cI cZ A adK adV ls C hA h hr hlk hl
  have hl : lv_has ls 2 [(0, .ref (ad 0)), (1, .int v1)] := hl
  unfold p_Md_book at hf
  obtain ⟨hx, hb, hml, hown, hT, -⟩ := id C
  refine lv_iload_n hx hb d_Md_book_0 rfl (lv_at hl 1 rfl) ?_
  refine lv_iconst (v := (-1)) hx hb d_Md_book_1 (by decide) ?_
  refine lv_icmp_ne (tgt := 14) hx hb d_Md_book_2 (by decide) (fun hc => ?_) (fun hc => ?_)
  · have hf := op_f hc hf
    refine lv_aload_n hx hb d_Md_book_14 rfl (lv_at hl 0 rfl) ?_
    refine lv_iload_n hx hb d_Md_book_15 rfl (lv_at hl 1 rfl) ?_
    obtain ⟨x2, hc1, hf⟩ := op_bind hf
    refine kc_r (rest := []) C h hA (c_Md_isSet l n v1 I R) hc1 (cbW 1 hT cd_Md_isSet rfl rfl ini_Md ml_Md_164 hd_Md_isSet ⟨Nat.le_of_ble_eq_true rfl, Nat.le_of_ble_eq_true rfl⟩) im_Md_isSet sp_Md_isSet rfl hl.1 rfl (Nat.le_of_ble_eq_true rfl) d_Md_book_16 ⟨Nat.zero_le _, Nat.zero_le _⟩ (fun H locs h => ?_)
    refine lv_if_eq (tgt := 26) hx hb d_Md_book_19 (by decide) (fun hc => ?_) (fun hc => ?_)
    · have hf := op_t hc hf
      refine lv_bipush (v := (-2)) hx hb d_Md_book_26 (by decide) ?_
      exact rt_mi C h hr hlk hf rfl d_Md_book_28
    · have hf := op_f hc hf
      refine lv_iload_n hx hb d_Md_book_22 rfl (lv_at hl 1 rfl) ?_
      refine lv_if_ne (tgt := 29) hx hb d_Md_book_23 (by decide) (fun hc => ?_) (fun hc => ?_)
      · have hf := op_f hc hf
        refine lv_aload_n hx hb d_Md_book_29 rfl (lv_at hl 0 rfl) ?_
        refine mg_1 C h d_Md_book_30 ?_
        refine lv_iconst (v := 3) hx hb d_Md_book_33 (by decide) ?_
        refine ma_1 C h (j := 3) (by decide) (show ix 3 890 by decide) d_Md_book_34 ?_
        refine lv_bipush (v := 12) hx hb d_Md_book_35 (by decide) ?_
        refine lv_icmp_ne (tgt := 43) hx hb d_Md_book_37 (by decide) (fun hc => ?_) (fun hc => ?_)
        · have hf := op_f hc hf
          refine lv_aload_n hx hb d_Md_book_43 rfl (lv_at hl 0 rfl) ?_
          refine mg_1 C h d_Md_book_44 ?_
          refine lv_bipush (v := 58) hx hb d_Md_book_47 (by decide) ?_
          refine lv_aload_n hx hb d_Md_book_49 rfl (lv_at hl 0 rfl) ?_
          refine mg_1 C h d_Md_book_50 ?_
          refine lv_iconst (v := 3) hx hb d_Md_book_53 (by decide) ?_
          refine ma_1 C h (j := 3) (by decide) (show ix 3 890 by decide) d_Md_book_54 ?_
          refine lv_iadd hx hb d_Md_book_55 ?_
          refine lv_iload_n hx hb d_Md_book_56 rfl (lv_at hl 1 rfl) ?_
          obtain ⟨h3, hf⟩ := op_if hf
          refine ms_1 C h rfl h3 d_Md_book_57 (fun H locs h => ?_)
          refine lv_aload_n hx hb d_Md_book_58 rfl (lv_at hl 0 rfl) ?_
          refine mg_1 C h d_Md_book_59 ?_
          refine lv_iconst (v := 3) hx hb d_Md_book_62 (by decide) ?_
          refine lv_dup2_11 hx hb d_Md_book_63 rfl rfl ?_
          refine ma_1 C h (j := 3) (by decide) (show ix 3 890 by decide) d_Md_book_64 ?_
          refine lv_iconst (v := 1) hx hb d_Md_book_65 (by decide) ?_
          refine lv_iadd hx hb d_Md_book_66 ?_
          refine ms_1 C h (j := 3) (by decide) (show ix 3 890 by decide) d_Md_book_67 (fun H locs h => ?_)
          refine lv_aload_n hx hb d_Md_book_68 rfl (lv_at hl 0 rfl) ?_
          refine mg_1 C h d_Md_book_69 ?_
          refine lv_iconst (v := 3) hx hb d_Md_book_72 (by decide) ?_
          refine ma_1 C h (j := 3) (by decide) (show ix 3 890 by decide) d_Md_book_73 ?_
          exact rt_mi C h hr hlk hf rfl d_Md_book_74
        · have hf := op_t hc hf
          refine lv_bipush (v := (-4)) hx hb d_Md_book_40 (by decide) ?_
          exact rt_mi C h hr hlk hf rfl d_Md_book_42
      · have hf := op_t hc hf
        refine lv_bipush (v := (-2)) hx hb d_Md_book_26 (by decide) ?_
        exact rt_mi C h hr hlk hf rfl d_Md_book_28
  · have hf := op_t hc hf
    refine lv_aload_n hx hb d_Md_book_5 rfl (lv_at hl 0 rfl) ?_
    refine mg_1 C h d_Md_book_6 ?_
    refine lv_iconst (v := 3) hx hb d_Md_book_9 (by decide) ?_
    refine lv_iconst (v := 0) hx hb d_Md_book_10 (by decide) ?_
    refine ms_1 C h (j := 3) (by decide) (show ix 3 890 by decide) d_Md_book_11 (fun H locs h => ?_)
    refine lv_iconst (v := 0) hx hb d_Md_book_12 (by decide) ?_
    exact rt_mi C h hr hlk hf rfl d_Md_book_13
theorem hd_Md_goesActs : y_Md_goesActs.cls ≠ "java/lang/invoke/MethodHandle" ∧ y_Md_goesActs.cls ≠ "java/lang/invoke/VarHandle" ∧ (parseMethodDescriptor y_Md_goesActs.desc).map (fun d => d.parameters.length) = some 1 := by decide +kernel
theorem d_Md_goesActs_0 : decode b_Md_goesActs 0 = .ok (.aload_n 0, 1) := by decide +kernel
theorem d_Md_goesActs_1 : decode b_Md_goesActs 1 = .ok (.getfield 253, 3) := by decide +kernel
theorem d_Md_goesActs_4 : decode b_Md_goesActs 4 = .ok (.iconst 1, 1) := by decide +kernel
theorem d_Md_goesActs_5 : decode b_Md_goesActs 5 = .ok (.invokestatic 256, 3) := by decide +kernel
theorem d_Md_goesActs_8 : decode b_Md_goesActs 8 = .ok (.ifCond .eq 17, 3) := by decide +kernel
theorem d_Md_goesActs_11 : decode b_Md_goesActs 11 = .ok (.aload_n 0, 1) := by decide +kernel
theorem d_Md_goesActs_12 : decode b_Md_goesActs 12 = .ok (.bipush 11, 2) := by decide +kernel
theorem d_Md_goesActs_14 : decode b_Md_goesActs 14 = .ok (.invokevirtual 247, 3) := by decide +kernel
theorem d_Md_goesActs_17 : decode b_Md_goesActs 17 = .ok (.aload_n 0, 1) := by decide +kernel
theorem d_Md_goesActs_18 : decode b_Md_goesActs 18 = .ok (.iload_n 1, 1) := by decide +kernel
theorem d_Md_goesActs_19 : decode b_Md_goesActs 19 = .ok (.iconst 3, 1) := by decide +kernel
theorem d_Md_goesActs_20 : decode b_Md_goesActs 20 = .ok (.imul, 1) := by decide +kernel
theorem d_Md_goesActs_21 : decode b_Md_goesActs 21 = .ok (.invokevirtual 259, 3) := by decide +kernel
theorem d_Md_goesActs_24 : decode b_Md_goesActs 24 = .ok (.ireturn, 1) := by decide +kernel
theorem d_Md_goesActs_25 : decode b_Md_goesActs 25 = .ok (.aload_n 0, 1) := by decide +kernel
theorem d_Md_goesActs_26 : decode b_Md_goesActs 26 = .ok (.getfield 253, 3) := by decide +kernel
theorem d_Md_goesActs_29 : decode b_Md_goesActs 29 = .ok (.iconst 5, 1) := by decide +kernel
theorem d_Md_goesActs_30 : decode b_Md_goesActs 30 = .ok (.if_icmp .ne 20, 3) := by decide +kernel
theorem d_Md_goesActs_33 : decode b_Md_goesActs 33 = .ok (.aload_n 0, 1) := by decide +kernel
theorem d_Md_goesActs_34 : decode b_Md_goesActs 34 = .ok (.bipush 51, 2) := by decide +kernel
theorem d_Md_goesActs_36 : decode b_Md_goesActs 36 = .ok (.invokevirtual 247, 3) := by decide +kernel
theorem d_Md_goesActs_39 : decode b_Md_goesActs 39 = .ok (.aload_n 0, 1) := by decide +kernel
theorem d_Md_goesActs_40 : decode b_Md_goesActs 40 = .ok (.iload_n 1, 1) := by decide +kernel
theorem d_Md_goesActs_41 : decode b_Md_goesActs 41 = .ok (.invokevirtual 259, 3) := by decide +kernel
theorem d_Md_goesActs_44 : decode b_Md_goesActs 44 = .ok (.aload_n 0, 1) := by decide +kernel
theorem d_Md_goesActs_45 : decode b_Md_goesActs 45 = .ok (.getfield 250, 3) := by decide +kernel
theorem d_Md_goesActs_48 : decode b_Md_goesActs 48 = .ok (.ixor, 1) := by decide +kernel
theorem d_Md_goesActs_49 : decode b_Md_goesActs 49 = .ok (.ireturn, 1) := by decide +kernel
theorem d_Md_goesActs_50 : decode b_Md_goesActs 50 = .ok (.aload_n 0, 1) := by decide +kernel
theorem d_Md_goesActs_51 : decode b_Md_goesActs 51 = .ok (.iload_n 1, 1) := by decide +kernel
theorem d_Md_goesActs_52 : decode b_Md_goesActs 52 = .ok (.invokevirtual 259, 3) := by decide +kernel
theorem d_Md_goesActs_55 : decode b_Md_goesActs 55 = .ok (.ireturn, 1) := by decide +kernel
def p_Md_goesActs (n : Nat) (v1 : Int32) (I : Nat → Int32) (R : Nat → Nat → Int32) : Option (Int32 × MU) := (p_Md_isUnder n (I 21) 1).bind fun x2 => (if x2 = 0 then (if (I 21) = 5 then (p_Md_ranBody n 51 I R).bind fun (I8, R9) => (p_Md_plainGoes n v1 I8 R9).bind fun (x13, I11, R12) => some ((x13 ^^^ (I11 22)), I11, R12) else (p_Md_plainGoes n v1 I R).bind fun (x6, I4, R5) => some (x6, I4, R5)) else (p_Md_ranBody n 11 I R).bind fun (I15, R16) => (p_Md_plainGoes n (v1 * 3) I15 R16).bind fun (x20, I18, R19) => some (x20, I18, R19))
set_option maxHeartbeats 4000000 in
theorem c_Md_goesActs (l : Launch) (n : Nat) (v1 : Int32) (I : Nat → Int32) (R : Nat → Nat → Int32)  : MMi l y_Md_goesActs b_Md_goesActs 2 .int (rL 7) (fun ad adK => [.int v1]) I R (p_Md_goesActs n v1 I R) := by
  refine en_mi (by decide) rfl (fun _ _ => Nat.le_of_ble_eq_true rfl) ?_
  intro z hf p e s m args below meth c dC dI ad cI cZ A adK adV ls C hA h hr hlk hl
  have hl : lv_has ls 2 [(0, .ref (ad 0)), (1, .int v1)] := hl
  unfold p_Md_goesActs at hf
  obtain ⟨hx, hb, hml, hown, hT, -⟩ := id C
  refine lv_aload_n hx hb d_Md_goesActs_0 rfl (lv_at hl 0 rfl) ?_
  refine mg_21 C h d_Md_goesActs_1 ?_
  refine lv_iconst (v := 1) hx hb d_Md_goesActs_4 (by decide) ?_
  obtain ⟨x2, hc1, hf⟩ := op_bind hf
  refine ks_i (rest := []) hx hb hml hown hT (c_Md_isUnder l n (I 21) 1 _ hc1) (cbW 2 hT cd_Md_isUnder rfl rfl ini_Md ml_Md_256 hd_Md_isUnder ⟨Nat.le_of_ble_eq_true rfl, Nat.le_of_ble_eq_true rfl⟩) sm_Md_isUnder rfl hl.1 rfl (Nat.le_of_ble_eq_true rfl) d_Md_goesActs_5 ⟨Nat.zero_le _, Nat.zero_le _⟩ ?_
  refine lv_if_eq (tgt := 25) hx hb d_Md_goesActs_8 (by decide) (fun hc => ?_) (fun hc => ?_)
  · have hf := op_t hc hf
    refine lv_aload_n hx hb d_Md_goesActs_25 rfl (lv_at hl 0 rfl) ?_
    refine mg_21 C h d_Md_goesActs_26 ?_
    refine lv_iconst (v := 5) hx hb d_Md_goesActs_29 (by decide) ?_
    refine lv_icmp_ne (tgt := 50) hx hb d_Md_goesActs_30 (by decide) (fun hc => ?_) (fun hc => ?_)
    · have hf := op_f hc hf
      refine lv_aload_n hx hb d_Md_goesActs_50 rfl (lv_at hl 0 rfl) ?_
      refine lv_iload_n hx hb d_Md_goesActs_51 rfl (lv_at hl 1 rfl) ?_
      obtain ⟨⟨x6, I4, R5⟩, hc3, hf⟩ := op_bind hf
      try dsimp only at hf
      refine kc_i (rest := []) C h hA (c_Md_plainGoes l n v1 I R) hc3 (cbW 1 hT cd_Md_plainGoes rfl rfl ini_Md ml_Md_259 hd_Md_plainGoes ⟨Nat.le_of_ble_eq_true rfl, Nat.le_of_ble_eq_true rfl⟩) im_Md_plainGoes sp_Md_plainGoes rfl hl.1 rfl (Nat.le_of_ble_eq_true rfl) d_Md_goesActs_52 ⟨Nat.zero_le _, Nat.zero_le _⟩ (fun H locs h => ?_)
      exact rt_mi C h hr hlk hf rfl d_Md_goesActs_55
    · have hf := op_t hc hf
      refine lv_aload_n hx hb d_Md_goesActs_33 rfl (lv_at hl 0 rfl) ?_
      refine lv_bipush (v := 51) hx hb d_Md_goesActs_34 (by decide) ?_
      obtain ⟨⟨I8, R9⟩, hc7, hf⟩ := op_bind hf
      try dsimp only at hf
      refine kc_v (rest := []) C h hA (c_Md_ranBody l n 51 I R) hc7 (cbW 1 hT cd_Md_ranBody rfl rfl ini_Md ml_Md_247 hd_Md_ranBody ⟨Nat.le_of_ble_eq_true rfl, Nat.le_of_ble_eq_true rfl⟩) im_Md_ranBody sp_Md_ranBody rfl hl.1 rfl (Nat.le_of_ble_eq_true rfl) d_Md_goesActs_36 ⟨Nat.zero_le _, Nat.zero_le _⟩ (fun H locs h => ?_)
      refine lv_aload_n hx hb d_Md_goesActs_39 rfl (lv_at hl 0 rfl) ?_
      refine lv_iload_n hx hb d_Md_goesActs_40 rfl (lv_at hl 1 rfl) ?_
      obtain ⟨⟨x13, I11, R12⟩, hc10, hf⟩ := op_bind hf
      try dsimp only at hf
      refine kc_i (rest := []) C h hA (c_Md_plainGoes l n v1 I8 R9) hc10 (cbW 1 hT cd_Md_plainGoes rfl rfl ini_Md ml_Md_259 hd_Md_plainGoes ⟨Nat.le_of_ble_eq_true rfl, Nat.le_of_ble_eq_true rfl⟩) im_Md_plainGoes sp_Md_plainGoes rfl hl.1 rfl (Nat.le_of_ble_eq_true rfl) d_Md_goesActs_41 ⟨Nat.zero_le _, Nat.zero_le _⟩ (fun H locs h => ?_)
      refine lv_aload_n hx hb d_Md_goesActs_44 rfl (lv_at hl 0 rfl) ?_
      refine mg_22 C h d_Md_goesActs_45 ?_
      refine lv_ixor hx hb d_Md_goesActs_48 ?_
      exact rt_mi C h hr hlk hf rfl d_Md_goesActs_49
  · have hf := op_f hc hf
    refine lv_aload_n hx hb d_Md_goesActs_11 rfl (lv_at hl 0 rfl) ?_
    refine lv_bipush (v := 11) hx hb d_Md_goesActs_12 (by decide) ?_
    obtain ⟨⟨I15, R16⟩, hc14, hf⟩ := op_bind hf
    try dsimp only at hf
    refine kc_v (rest := []) C h hA (c_Md_ranBody l n 11 I R) hc14 (cbW 1 hT cd_Md_ranBody rfl rfl ini_Md ml_Md_247 hd_Md_ranBody ⟨Nat.le_of_ble_eq_true rfl, Nat.le_of_ble_eq_true rfl⟩) im_Md_ranBody sp_Md_ranBody rfl hl.1 rfl (Nat.le_of_ble_eq_true rfl) d_Md_goesActs_14 ⟨Nat.zero_le _, Nat.zero_le _⟩ (fun H locs h => ?_)
    refine lv_aload_n hx hb d_Md_goesActs_17 rfl (lv_at hl 0 rfl) ?_
    refine lv_iload_n hx hb d_Md_goesActs_18 rfl (lv_at hl 1 rfl) ?_
    refine lv_iconst (v := 3) hx hb d_Md_goesActs_19 (by decide) ?_
    refine lv_imul hx hb d_Md_goesActs_20 ?_
    obtain ⟨⟨x20, I18, R19⟩, hc17, hf⟩ := op_bind hf
    try dsimp only at hf
    refine kc_i (rest := []) C h hA (c_Md_plainGoes l n (v1 * 3) I15 R16) hc17 (cbW 1 hT cd_Md_plainGoes rfl rfl ini_Md ml_Md_259 hd_Md_plainGoes ⟨Nat.le_of_ble_eq_true rfl, Nat.le_of_ble_eq_true rfl⟩) im_Md_plainGoes sp_Md_plainGoes rfl hl.1 rfl (Nat.le_of_ble_eq_true rfl) d_Md_goesActs_21 ⟨Nat.zero_le _, Nat.zero_le _⟩ (fun H locs h => ?_)
    exact rt_mi C h hr hlk hf rfl d_Md_goesActs_24
theorem hd_Md_as : y_Md_as.cls ≠ "java/lang/invoke/MethodHandle" ∧ y_Md_as.cls ≠ "java/lang/invoke/VarHandle" ∧ (parseMethodDescriptor y_Md_as.desc).map (fun d => d.parameters.length) = some 2 := by decide +kernel
theorem d_Md_as_0 : decode b_Md_as 0 = .ok (.aload_n 0, 1) := by decide +kernel
theorem d_Md_as_1 : decode b_Md_as 1 = .ok (.iload_n 1, 1) := by decide +kernel
theorem d_Md_as_2 : decode b_Md_as 2 = .ok (.invokevirtual 131, 3) := by decide +kernel
theorem d_Md_as_5 : decode b_Md_as 5 = .ok (.ifCond .eq 13, 3) := by decide +kernel
theorem d_Md_as_8 : decode b_Md_as 8 = .ok (.iload_n 2, 1) := by decide +kernel
theorem d_Md_as_9 : decode b_Md_as 9 = .ok (.iconst 0, 1) := by decide +kernel
theorem d_Md_as_10 : decode b_Md_as 10 = .ok (.bipush 6, 2) := by decide +kernel
theorem d_Md_as_12 : decode b_Md_as 12 = .ok (.invokestatic 44, 3) := by decide +kernel
theorem d_Md_as_15 : decode b_Md_as 15 = .ok (.ifCond .ne 5, 3) := by decide +kernel
theorem d_Md_as_18 : decode b_Md_as 18 = .ok (.iconst (-1), 1) := by decide +kernel
theorem d_Md_as_19 : decode b_Md_as 19 = .ok (.ireturn, 1) := by decide +kernel
theorem d_Md_as_20 : decode b_Md_as 20 = .ok (.aload_n 0, 1) := by decide +kernel
theorem d_Md_as_21 : decode b_Md_as 21 = .ok (.getfield 9, 3) := by decide +kernel
theorem d_Md_as_24 : decode b_Md_as 24 = .ok (.bipush 10, 2) := by decide +kernel
theorem d_Md_as_26 : decode b_Md_as 26 = .ok (.iload_n 1, 1) := by decide +kernel
theorem d_Md_as_27 : decode b_Md_as 27 = .ok (.iadd, 1) := by decide +kernel
theorem d_Md_as_28 : decode b_Md_as 28 = .ok (.iaload, 1) := by decide +kernel
theorem d_Md_as_29 : decode b_Md_as 29 = .ok (.iload_n 2, 1) := by decide +kernel
theorem d_Md_as_30 : decode b_Md_as 30 = .ok (.invokestatic 256, 3) := by decide +kernel
theorem d_Md_as_33 : decode b_Md_as 33 = .ok (.ifCond .eq 15, 3) := by decide +kernel
theorem d_Md_as_36 : decode b_Md_as 36 = .ok (.aload_n 0, 1) := by decide +kernel
theorem d_Md_as_37 : decode b_Md_as 37 = .ok (.getfield 9, 3) := by decide +kernel
theorem d_Md_as_40 : decode b_Md_as 40 = .ok (.bipush 16, 2) := by decide +kernel
theorem d_Md_as_42 : decode b_Md_as 42 = .ok (.iload_n 1, 1) := by decide +kernel
theorem d_Md_as_43 : decode b_Md_as 43 = .ok (.iadd, 1) := by decide +kernel
theorem d_Md_as_44 : decode b_Md_as 44 = .ok (.iaload, 1) := by decide +kernel
theorem d_Md_as_45 : decode b_Md_as 45 = .ok (.goto 5, 3) := by decide +kernel
theorem d_Md_as_48 : decode b_Md_as 48 = .ok (.bipush (-6), 2) := by decide +kernel
theorem d_Md_as_50 : decode b_Md_as 50 = .ok (.ireturn, 1) := by decide +kernel
def p_Md_as (n : Nat) (v1 : Int32) (v2 : Int32) (I : Nat → Int32) (R : Nat → Nat → Int32) : Option (Int32) := (p_Md_isPerson n v1 I R).bind fun x2 => (if x2 = 0 then some (-1) else (p_Md_in n v2 0 6).bind fun x4 => (if x4 = 0 then some (-1) else if ix (10 + v1) 890 then (p_Md_isUnder n (R 1 (10 + v1).toNatClampNeg) v2).bind fun x7 => (if x7 = 0 then some (-6) else if ix (16 + v1) 890 then some (R 1 (16 + v1).toNatClampNeg) else none : Option (Int32)).bind fun x9 => some x9 else none))
set_option maxHeartbeats 4000000 in
theorem c_Md_as (l : Launch) (n : Nat) (v1 : Int32) (v2 : Int32) (I : Nat → Int32) (R : Nat → Nat → Int32)  : MMi l y_Md_as b_Md_as 3 .int (rL 7) (fun ad adK => [.int v1, .int v2]) I R ((p_Md_as n v1 v2 I R).map fun r => (r, I, R)) := by
  refine en_mi (by decide) rfl (fun _ _ => Nat.le_of_ble_eq_true rfl) ?_
  intro z hz p e s m args below meth c dC dI ad cI cZ A adK adV ls C hA h hr hlk hl
  have hl : lv_has ls 3 [(0, .ref (ad 0)), (1, .int v1), (2, .int v2)] := hl
  obtain ⟨z, hf, rfl⟩ := op_map hz
  unfold p_Md_as at hf
  obtain ⟨hx, hb, hml, hown, hT, -⟩ := id C
  refine lv_aload_n hx hb d_Md_as_0 rfl (lv_at hl 0 rfl) ?_
  refine lv_iload_n hx hb d_Md_as_1 rfl (lv_at hl 1 rfl) ?_
  obtain ⟨x2, hc1, hf⟩ := op_bind hf
  refine kc_r (rest := []) C h hA (c_Md_isPerson l n v1 I R) hc1 (cbW 1 hT cd_Md_isPerson rfl rfl ini_Md ml_Md_131 hd_Md_isPerson ⟨Nat.le_of_ble_eq_true rfl, Nat.le_of_ble_eq_true rfl⟩) im_Md_isPerson sp_Md_isPerson rfl hl.1 rfl (Nat.le_of_ble_eq_true rfl) d_Md_as_2 ⟨Nat.zero_le _, Nat.zero_le _⟩ (fun H locs h => ?_)
  refine lv_if_eq (tgt := 18) hx hb d_Md_as_5 (by decide) (fun hc => ?_) (fun hc => ?_)
  · have hf := op_t hc hf
    refine lv_iconst (v := (-1)) hx hb d_Md_as_18 (by decide) ?_
    exact rt_mr C h hr hlk hf rfl d_Md_as_19
  · have hf := op_f hc hf
    refine lv_iload_n hx hb d_Md_as_8 rfl (lv_at hl 2 rfl) ?_
    refine lv_iconst (v := 0) hx hb d_Md_as_9 (by decide) ?_
    refine lv_bipush (v := 6) hx hb d_Md_as_10 (by decide) ?_
    obtain ⟨x4, hc3, hf⟩ := op_bind hf
    refine ks_i (rest := []) hx hb hml hown hT (c_Md_in l n v2 0 6 _ hc3) (cbW 3 hT cd_Md_in rfl rfl ini_Md ml_Md_44 hd_Md_in ⟨Nat.le_of_ble_eq_true rfl, Nat.le_of_ble_eq_true rfl⟩) sm_Md_in rfl hl.1 rfl (Nat.le_of_ble_eq_true rfl) d_Md_as_12 ⟨Nat.zero_le _, Nat.zero_le _⟩ ?_
    refine lv_if_ne (tgt := 20) hx hb d_Md_as_15 (by decide) (fun hc => ?_) (fun hc => ?_)
    · have hf := op_f hc hf
      refine lv_aload_n hx hb d_Md_as_20 rfl (lv_at hl 0 rfl) ?_
      refine mg_1 C h d_Md_as_21 ?_
      refine lv_bipush (v := 10) hx hb d_Md_as_24 (by decide) ?_
      refine lv_iload_n hx hb d_Md_as_26 rfl (lv_at hl 1 rfl) ?_
      refine lv_iadd hx hb d_Md_as_27 ?_
      obtain ⟨h5, hf⟩ := op_if hf
      refine ma_1 C h rfl h5 d_Md_as_28 ?_
      refine lv_iload_n hx hb d_Md_as_29 rfl (lv_at hl 2 rfl) ?_
      obtain ⟨x7, hc6, hf⟩ := op_bind hf
      refine ks_i (rest := []) hx hb hml hown hT (c_Md_isUnder l n (R 1 (10 + v1).toNatClampNeg) v2 _ hc6) (cbW 2 hT cd_Md_isUnder rfl rfl ini_Md ml_Md_256 hd_Md_isUnder ⟨Nat.le_of_ble_eq_true rfl, Nat.le_of_ble_eq_true rfl⟩) sm_Md_isUnder rfl hl.1 rfl (Nat.le_of_ble_eq_true rfl) d_Md_as_30 ⟨Nat.zero_le _, Nat.zero_le _⟩ ?_
      obtain ⟨x9, he, hf⟩ := op_bind hf
      have K8 : ∀ (ls : Array Slot), lv_has ls 3 [] → ∀ (H : Heap) (locs : List Loc), mH A s.heap dC dI ad cI cZ I R H locs → W p l e (rL 7) s m args below meth c H locs 0 0 (mQi dC dI ad cI cZ A below args s (z, I, R)) (F0 m 50 ls [.int x9]) := by
        intro ls hl H locs h
        exact rt_mr C h hr hlk hf rfl d_Md_as_50
      have hf := he
      refine lv_if_eq (tgt := 48) hx hb d_Md_as_33 (by decide) (fun hc => ?_) (fun hc => ?_)
      · have hf := op_t hc hf
        refine lv_bipush (v := (-6)) hx hb d_Md_as_48 (by decide) ?_
        obtain rfl := op_i1 hf
        exact K8 ls (lv_sub hl [] rfl) H locs h
      · have hf := op_f hc hf
        refine lv_aload_n hx hb d_Md_as_36 rfl (lv_at hl 0 rfl) ?_
        refine mg_1 C h d_Md_as_37 ?_
        refine lv_bipush (v := 16) hx hb d_Md_as_40 (by decide) ?_
        refine lv_iload_n hx hb d_Md_as_42 rfl (lv_at hl 1 rfl) ?_
        refine lv_iadd hx hb d_Md_as_43 ?_
        obtain ⟨h10, hf⟩ := op_if hf
        refine ma_1 C h rfl h10 d_Md_as_44 ?_
        refine lv_goto (tgt := 50) hx hb d_Md_as_45 (by decide) ?_
        obtain rfl := op_i1 hf
        exact K8 ls (lv_sub hl [] rfl) H locs h
    · have hf := op_t hc hf
      refine lv_iconst (v := (-1)) hx hb d_Md_as_18 (by decide) ?_
      exact rt_mr C h hr hlk hf rfl d_Md_as_19
theorem hd_Md_takes : y_Md_takes.cls ≠ "java/lang/invoke/MethodHandle" ∧ y_Md_takes.cls ≠ "java/lang/invoke/VarHandle" ∧ (parseMethodDescriptor y_Md_takes.desc).map (fun d => d.parameters.length) = some 3 := by decide +kernel
theorem d_Md_takes_0 : decode b_Md_takes 0 = .ok (.aload_n 0, 1) := by decide +kernel
theorem d_Md_takes_1 : decode b_Md_takes 1 = .ok (.iload_n 1, 1) := by decide +kernel
theorem d_Md_takes_2 : decode b_Md_takes 2 = .ok (.iload_n 2, 1) := by decide +kernel
theorem d_Md_takes_3 : decode b_Md_takes 3 = .ok (.iload_n 3, 1) := by decide +kernel
theorem d_Md_takes_4 : decode b_Md_takes 4 = .ok (.invokevirtual 149, 3) := by decide +kernel
theorem d_Md_takes_7 : decode b_Md_takes 7 = .ok (.aload_n 0, 1) := by decide +kernel
theorem d_Md_takes_8 : decode b_Md_takes 8 = .ok (.getfield 9, 3) := by decide +kernel
theorem d_Md_takes_11 : decode b_Md_takes 11 = .ok (.bipush 16, 2) := by decide +kernel
theorem d_Md_takes_13 : decode b_Md_takes 13 = .ok (.iload_n 1, 1) := by decide +kernel
theorem d_Md_takes_14 : decode b_Md_takes 14 = .ok (.iadd, 1) := by decide +kernel
theorem d_Md_takes_15 : decode b_Md_takes 15 = .ok (.iaload, 1) := by decide +kernel
theorem d_Md_takes_16 : decode b_Md_takes 16 = .ok (.istore 4, 2) := by decide +kernel
theorem d_Md_takes_18 : decode b_Md_takes 18 = .ok (.aload_n 0, 1) := by decide +kernel
theorem d_Md_takes_19 : decode b_Md_takes 19 = .ok (.getfield 9, 3) := by decide +kernel
theorem d_Md_takes_22 : decode b_Md_takes 22 = .ok (.bipush 10, 2) := by decide +kernel
theorem d_Md_takes_24 : decode b_Md_takes 24 = .ok (.iload_n 1, 1) := by decide +kernel
theorem d_Md_takes_25 : decode b_Md_takes 25 = .ok (.iadd, 1) := by decide +kernel
theorem d_Md_takes_26 : decode b_Md_takes 26 = .ok (.iaload, 1) := by decide +kernel
theorem d_Md_takes_27 : decode b_Md_takes 27 = .ok (.istore 5, 2) := by decide +kernel
theorem d_Md_takes_29 : decode b_Md_takes 29 = .ok (.aload_n 0, 1) := by decide +kernel
theorem d_Md_takes_30 : decode b_Md_takes 30 = .ok (.getfield 9, 3) := by decide +kernel
theorem d_Md_takes_33 : decode b_Md_takes 33 = .ok (.bipush 22, 2) := by decide +kernel
theorem d_Md_takes_35 : decode b_Md_takes 35 = .ok (.iload_n 1, 1) := by decide +kernel
theorem d_Md_takes_36 : decode b_Md_takes 36 = .ok (.iadd, 1) := by decide +kernel
theorem d_Md_takes_37 : decode b_Md_takes 37 = .ok (.iaload, 1) := by decide +kernel
theorem d_Md_takes_38 : decode b_Md_takes 38 = .ok (.aload_n 0, 1) := by decide +kernel
theorem d_Md_takes_39 : decode b_Md_takes 39 = .ok (.getfield 143, 3) := by decide +kernel
theorem d_Md_takes_42 : decode b_Md_takes 42 = .ok (.iadd, 1) := by decide +kernel
theorem d_Md_takes_43 : decode b_Md_takes 43 = .ok (.istore 6, 2) := by decide +kernel
theorem d_Md_takes_45 : decode b_Md_takes 45 = .ok (.iconst 0, 1) := by decide +kernel
theorem d_Md_takes_46 : decode b_Md_takes 46 = .ok (.istore 7, 2) := by decide +kernel
theorem d_Md_takes_48 : decode b_Md_takes 48 = .ok (.iconst 0, 1) := by decide +kernel
theorem d_Md_takes_49 : decode b_Md_takes 49 = .ok (.istore 8, 2) := by decide +kernel
theorem d_Md_takes_51 : decode b_Md_takes 51 = .ok (.iconst 0, 1) := by decide +kernel
theorem d_Md_takes_52 : decode b_Md_takes 52 = .ok (.istore 9, 2) := by decide +kernel
theorem d_Md_takes_54 : decode b_Md_takes 54 = .ok (.iload 9, 2) := by decide +kernel
theorem d_Md_takes_56 : decode b_Md_takes 56 = .ok (.aload_n 0, 1) := by decide +kernel
theorem d_Md_takes_57 : decode b_Md_takes 57 = .ok (.getfield 9, 3) := by decide +kernel
theorem d_Md_takes_60 : decode b_Md_takes 60 = .ok (.iconst 0, 1) := by decide +kernel
theorem d_Md_takes_61 : decode b_Md_takes 61 = .ok (.iaload, 1) := by decide +kernel
theorem d_Md_takes_62 : decode b_Md_takes 62 = .ok (.if_icmp .ge 101, 3) := by decide +kernel
theorem d_Md_takes_65 : decode b_Md_takes 65 = .ok (.iload 7, 2) := by decide +kernel
theorem d_Md_takes_67 : decode b_Md_takes 67 = .ok (.ifCond .ne 41, 3) := by decide +kernel
theorem d_Md_takes_70 : decode b_Md_takes 70 = .ok (.iload 9, 2) := by decide +kernel
theorem d_Md_takes_72 : decode b_Md_takes 72 = .ok (.iload_n 1, 1) := by decide +kernel
theorem d_Md_takes_73 : decode b_Md_takes 73 = .ok (.if_icmp .eq 39, 3) := by decide +kernel
theorem d_Md_takes_76 : decode b_Md_takes 76 = .ok (.aload_n 0, 1) := by decide +kernel
theorem d_Md_takes_77 : decode b_Md_takes 77 = .ok (.iload 9, 2) := by decide +kernel
theorem d_Md_takes_79 : decode b_Md_takes 79 = .ok (.iload_n 2, 1) := by decide +kernel
theorem d_Md_takes_80 : decode b_Md_takes 80 = .ok (.invokevirtual 153, 3) := by decide +kernel
theorem d_Md_takes_83 : decode b_Md_takes 83 = .ok (.ifCond .eq 29, 3) := by decide +kernel
theorem d_Md_takes_86 : decode b_Md_takes 86 = .ok (.aload_n 0, 1) := by decide +kernel
theorem d_Md_takes_87 : decode b_Md_takes 87 = .ok (.getfield 9, 3) := by decide +kernel
theorem d_Md_takes_90 : decode b_Md_takes 90 = .ok (.bipush 28, 2) := by decide +kernel
theorem d_Md_takes_92 : decode b_Md_takes 92 = .ok (.iload 9, 2) := by decide +kernel
theorem d_Md_takes_94 : decode b_Md_takes 94 = .ok (.iadd, 1) := by decide +kernel
theorem d_Md_takes_95 : decode b_Md_takes 95 = .ok (.iaload, 1) := by decide +kernel
theorem d_Md_takes_96 : decode b_Md_takes 96 = .ok (.aload_n 0, 1) := by decide +kernel
theorem d_Md_takes_97 : decode b_Md_takes 97 = .ok (.getfield 9, 3) := by decide +kernel
theorem d_Md_takes_100 : decode b_Md_takes 100 = .ok (.bipush 28, 2) := by decide +kernel
theorem d_Md_takes_102 : decode b_Md_takes 102 = .ok (.iload_n 1, 1) := by decide +kernel
theorem d_Md_takes_103 : decode b_Md_takes 103 = .ok (.iadd, 1) := by decide +kernel
theorem d_Md_takes_104 : decode b_Md_takes 104 = .ok (.iaload, 1) := by decide +kernel
theorem d_Md_takes_105 : decode b_Md_takes 105 = .ok (.if_icmp .le 7, 3) := by decide +kernel
theorem d_Md_takes_108 : decode b_Md_takes 108 = .ok (.iconst 1, 1) := by decide +kernel
theorem d_Md_takes_109 : decode b_Md_takes 109 = .ok (.goto 4, 3) := by decide +kernel
theorem d_Md_takes_112 : decode b_Md_takes 112 = .ok (.iconst 0, 1) := by decide +kernel
theorem d_Md_takes_113 : decode b_Md_takes 113 = .ok (.istore 7, 2) := by decide +kernel
theorem d_Md_takes_115 : decode b_Md_takes 115 = .ok (.iload 8, 2) := by decide +kernel
theorem d_Md_takes_117 : decode b_Md_takes 117 = .ok (.ifCond .ne 33, 3) := by decide +kernel
theorem d_Md_takes_120 : decode b_Md_takes 120 = .ok (.iload 9, 2) := by decide +kernel
theorem d_Md_takes_122 : decode b_Md_takes 122 = .ok (.iload_n 1, 1) := by decide +kernel
theorem d_Md_takes_123 : decode b_Md_takes 123 = .ok (.if_icmp .eq 31, 3) := by decide +kernel
theorem d_Md_takes_126 : decode b_Md_takes 126 = .ok (.aload_n 0, 1) := by decide +kernel
theorem d_Md_takes_127 : decode b_Md_takes 127 = .ok (.iload 9, 2) := by decide +kernel
theorem d_Md_takes_129 : decode b_Md_takes 129 = .ok (.iload_n 2, 1) := by decide +kernel
theorem d_Md_takes_130 : decode b_Md_takes 130 = .ok (.invokevirtual 153, 3) := by decide +kernel
theorem d_Md_takes_133 : decode b_Md_takes 133 = .ok (.ifCond .eq 21, 3) := by decide +kernel
theorem d_Md_takes_136 : decode b_Md_takes 136 = .ok (.aload_n 0, 1) := by decide +kernel
theorem d_Md_takes_137 : decode b_Md_takes 137 = .ok (.getfield 9, 3) := by decide +kernel
theorem d_Md_takes_140 : decode b_Md_takes 140 = .ok (.bipush 10, 2) := by decide +kernel
theorem d_Md_takes_142 : decode b_Md_takes 142 = .ok (.iload 9, 2) := by decide +kernel
theorem d_Md_takes_144 : decode b_Md_takes 144 = .ok (.iadd, 1) := by decide +kernel
theorem d_Md_takes_145 : decode b_Md_takes 145 = .ok (.iaload, 1) := by decide +kernel
theorem d_Md_takes_146 : decode b_Md_takes 146 = .ok (.iconst 4, 1) := by decide +kernel
theorem d_Md_takes_147 : decode b_Md_takes 147 = .ok (.if_icmp .ne 7, 3) := by decide +kernel
theorem d_Md_takes_150 : decode b_Md_takes 150 = .ok (.iconst 1, 1) := by decide +kernel
theorem d_Md_takes_151 : decode b_Md_takes 151 = .ok (.goto 4, 3) := by decide +kernel
theorem d_Md_takes_154 : decode b_Md_takes 154 = .ok (.iconst 0, 1) := by decide +kernel
theorem d_Md_takes_155 : decode b_Md_takes 155 = .ok (.istore 8, 2) := by decide +kernel
theorem d_Md_takes_157 : decode b_Md_takes 157 = .ok (.iinc 9 1, 3) := by decide +kernel
theorem d_Md_takes_160 : decode b_Md_takes 160 = .ok (.goto (-106), 3) := by decide +kernel
theorem d_Md_takes_163 : decode b_Md_takes 163 = .ok (.iload_n 2, 1) := by decide +kernel
theorem d_Md_takes_164 : decode b_Md_takes 164 = .ok (.invokestatic 139, 3) := by decide +kernel
theorem d_Md_takes_167 : decode b_Md_takes 167 = .ok (.iconst 1, 1) := by decide +kernel
theorem d_Md_takes_168 : decode b_Md_takes 168 = .ok (.if_icmp .ne 7, 3) := by decide +kernel
theorem d_Md_takes_171 : decode b_Md_takes 171 = .ok (.iconst 1, 1) := by decide +kernel
theorem d_Md_takes_172 : decode b_Md_takes 172 = .ok (.goto 4, 3) := by decide +kernel
theorem d_Md_takes_175 : decode b_Md_takes 175 = .ok (.iconst 0, 1) := by decide +kernel
theorem d_Md_takes_176 : decode b_Md_takes 176 = .ok (.istore 9, 2) := by decide +kernel
theorem d_Md_takes_178 : decode b_Md_takes 178 = .ok (.iload 6, 2) := by decide +kernel
theorem d_Md_takes_180 : decode b_Md_takes 180 = .ok (.iload 5, 2) := by decide +kernel
theorem d_Md_takes_182 : decode b_Md_takes 182 = .ok (.iconst 1, 1) := by decide +kernel
theorem d_Md_takes_183 : decode b_Md_takes 183 = .ok (.if_icmp .eq 9, 3) := by decide +kernel
theorem d_Md_takes_186 : decode b_Md_takes 186 = .ok (.iload 5, 2) := by decide +kernel
theorem d_Md_takes_188 : decode b_Md_takes 188 = .ok (.iconst 4, 1) := by decide +kernel
theorem d_Md_takes_189 : decode b_Md_takes 189 = .ok (.if_icmp .ne 13, 3) := by decide +kernel
theorem d_Md_takes_192 : decode b_Md_takes 192 = .ok (.iload 9, 2) := by decide +kernel
theorem d_Md_takes_194 : decode b_Md_takes 194 = .ok (.ifCond .eq 8, 3) := by decide +kernel
theorem d_Md_takes_197 : decode b_Md_takes 197 = .ok (.iload 4, 2) := by decide +kernel
theorem d_Md_takes_199 : decode b_Md_takes 199 = .ok (.goto 4, 3) := by decide +kernel
theorem d_Md_takes_202 : decode b_Md_takes 202 = .ok (.iconst 0, 1) := by decide +kernel
theorem d_Md_takes_203 : decode b_Md_takes 203 = .ok (.isub, 1) := by decide +kernel
theorem d_Md_takes_204 : decode b_Md_takes 204 = .ok (.istore 6, 2) := by decide +kernel
theorem d_Md_takes_206 : decode b_Md_takes 206 = .ok (.iload 6, 2) := by decide +kernel
theorem d_Md_takes_208 : decode b_Md_takes 208 = .ok (.iload 5, 2) := by decide +kernel
theorem d_Md_takes_210 : decode b_Md_takes 210 = .ok (.iconst 2, 1) := by decide +kernel
theorem d_Md_takes_211 : decode b_Md_takes 211 = .ok (.if_icmp .eq 9, 3) := by decide +kernel
theorem d_Md_takes_214 : decode b_Md_takes 214 = .ok (.iload 5, 2) := by decide +kernel
theorem d_Md_takes_216 : decode b_Md_takes 216 = .ok (.iconst 5, 1) := by decide +kernel
theorem d_Md_takes_217 : decode b_Md_takes 217 = .ok (.if_icmp .ne 13, 3) := by decide +kernel
theorem d_Md_takes_220 : decode b_Md_takes 220 = .ok (.iload 7, 2) := by decide +kernel
theorem d_Md_takes_222 : decode b_Md_takes 222 = .ok (.ifCond .ne 8, 3) := by decide +kernel
theorem d_Md_takes_225 : decode b_Md_takes 225 = .ok (.iload 4, 2) := by decide +kernel
theorem d_Md_takes_227 : decode b_Md_takes 227 = .ok (.goto 4, 3) := by decide +kernel
theorem d_Md_takes_230 : decode b_Md_takes 230 = .ok (.iconst 0, 1) := by decide +kernel
theorem d_Md_takes_231 : decode b_Md_takes 231 = .ok (.iadd, 1) := by decide +kernel
theorem d_Md_takes_232 : decode b_Md_takes 232 = .ok (.istore 6, 2) := by decide +kernel
theorem d_Md_takes_234 : decode b_Md_takes 234 = .ok (.iload 5, 2) := by decide +kernel
theorem d_Md_takes_236 : decode b_Md_takes 236 = .ok (.iconst 5, 1) := by decide +kernel
theorem d_Md_takes_237 : decode b_Md_takes 237 = .ok (.if_icmp .ne 17, 3) := by decide +kernel
theorem d_Md_takes_240 : decode b_Md_takes 240 = .ok (.iload 9, 2) := by decide +kernel
theorem d_Md_takes_242 : decode b_Md_takes 242 = .ok (.ifCond .ne 12, 3) := by decide +kernel
theorem d_Md_takes_245 : decode b_Md_takes 245 = .ok (.iload 6, 2) := by decide +kernel
theorem d_Md_takes_247 : decode b_Md_takes 247 = .ok (.iconst 1, 1) := by decide +kernel
theorem d_Md_takes_248 : decode b_Md_takes 248 = .ok (.iadd, 1) := by decide +kernel
theorem d_Md_takes_249 : decode b_Md_takes 249 = .ok (.iconst 2, 1) := by decide +kernel
theorem d_Md_takes_250 : decode b_Md_takes 250 = .ok (.idiv, 1) := by decide +kernel
theorem d_Md_takes_251 : decode b_Md_takes 251 = .ok (.goto 5, 3) := by decide +kernel
theorem d_Md_takes_254 : decode b_Md_takes 254 = .ok (.iload 6, 2) := by decide +kernel
theorem d_Md_takes_256 : decode b_Md_takes 256 = .ok (.istore 6, 2) := by decide +kernel
theorem d_Md_takes_258 : decode b_Md_takes 258 = .ok (.iload 6, 2) := by decide +kernel
theorem d_Md_takes_260 : decode b_Md_takes 260 = .ok (.iload 5, 2) := by decide +kernel
theorem d_Md_takes_262 : decode b_Md_takes 262 = .ok (.iconst 3, 1) := by decide +kernel
theorem d_Md_takes_263 : decode b_Md_takes 263 = .ok (.if_icmp .eq 10, 3) := by decide +kernel
theorem d_Md_takes_266 : decode b_Md_takes 266 = .ok (.iload 5, 2) := by decide +kernel
theorem d_Md_takes_268 : decode b_Md_takes 268 = .ok (.bipush 6, 2) := by decide +kernel
theorem d_Md_takes_270 : decode b_Md_takes 270 = .ok (.if_icmp .ne 30, 3) := by decide +kernel
theorem d_Md_takes_273 : decode b_Md_takes 273 = .ok (.aload_n 0, 1) := by decide +kernel
theorem d_Md_takes_274 : decode b_Md_takes 274 = .ok (.iload_n 1, 1) := by decide +kernel
theorem d_Md_takes_275 : decode b_Md_takes 275 = .ok (.iconst 1, 1) := by decide +kernel
theorem d_Md_takes_276 : decode b_Md_takes 276 = .ok (.isub, 1) := by decide +kernel
theorem d_Md_takes_277 : decode b_Md_takes 277 = .ok (.iload_n 2, 1) := by decide +kernel
theorem d_Md_takes_278 : decode b_Md_takes 278 = .ok (.invokevirtual 153, 3) := by decide +kernel
theorem d_Md_takes_281 : decode b_Md_takes 281 = .ok (.ifCond .ne 19, 3) := by decide +kernel
theorem d_Md_takes_284 : decode b_Md_takes 284 = .ok (.aload_n 0, 1) := by decide +kernel
theorem d_Md_takes_285 : decode b_Md_takes 285 = .ok (.iload_n 1, 1) := by decide +kernel
theorem d_Md_takes_286 : decode b_Md_takes 286 = .ok (.iconst 1, 1) := by decide +kernel
theorem d_Md_takes_287 : decode b_Md_takes 287 = .ok (.iadd, 1) := by decide +kernel
theorem d_Md_takes_288 : decode b_Md_takes 288 = .ok (.iload_n 2, 1) := by decide +kernel
theorem d_Md_takes_289 : decode b_Md_takes 289 = .ok (.invokevirtual 153, 3) := by decide +kernel
theorem d_Md_takes_292 : decode b_Md_takes 292 = .ok (.ifCond .ne 8, 3) := by decide +kernel
theorem d_Md_takes_295 : decode b_Md_takes 295 = .ok (.iload 4, 2) := by decide +kernel
theorem d_Md_takes_297 : decode b_Md_takes 297 = .ok (.goto 4, 3) := by decide +kernel
theorem d_Md_takes_300 : decode b_Md_takes 300 = .ok (.iconst 0, 1) := by decide +kernel
theorem d_Md_takes_301 : decode b_Md_takes 301 = .ok (.iadd, 1) := by decide +kernel
theorem d_Md_takes_302 : decode b_Md_takes 302 = .ok (.istore 6, 2) := by decide +kernel
theorem d_Md_takes_304 : decode b_Md_takes 304 = .ok (.iload 6, 2) := by decide +kernel
theorem d_Md_takes_306 : decode b_Md_takes 306 = .ok (.iload 5, 2) := by decide +kernel
theorem d_Md_takes_308 : decode b_Md_takes 308 = .ok (.bipush 6, 2) := by decide +kernel
theorem d_Md_takes_310 : decode b_Md_takes 310 = .ok (.if_icmp .ne 13, 3) := by decide +kernel
theorem d_Md_takes_313 : decode b_Md_takes 313 = .ok (.iload_n 3, 1) := by decide +kernel
theorem d_Md_takes_314 : decode b_Md_takes 314 = .ok (.iconst 1, 1) := by decide +kernel
theorem d_Md_takes_315 : decode b_Md_takes 315 = .ok (.if_icmp .ne 8, 3) := by decide +kernel
theorem d_Md_takes_318 : decode b_Md_takes 318 = .ok (.iload 4, 2) := by decide +kernel
theorem d_Md_takes_320 : decode b_Md_takes 320 = .ok (.goto 4, 3) := by decide +kernel
theorem d_Md_takes_323 : decode b_Md_takes 323 = .ok (.iconst 0, 1) := by decide +kernel
theorem d_Md_takes_324 : decode b_Md_takes 324 = .ok (.iadd, 1) := by decide +kernel
theorem d_Md_takes_325 : decode b_Md_takes 325 = .ok (.istore 6, 2) := by decide +kernel
theorem d_Md_takes_327 : decode b_Md_takes 327 = .ok (.iload 6, 2) := by decide +kernel
theorem d_Md_takes_329 : decode b_Md_takes 329 = .ok (.iload 8, 2) := by decide +kernel
theorem d_Md_takes_331 : decode b_Md_takes 331 = .ok (.ifCond .eq 7, 3) := by decide +kernel
theorem d_Md_takes_334 : decode b_Md_takes 334 = .ok (.iconst 1, 1) := by decide +kernel
theorem d_Md_takes_335 : decode b_Md_takes 335 = .ok (.goto 4, 3) := by decide +kernel
theorem d_Md_takes_338 : decode b_Md_takes 338 = .ok (.iconst 0, 1) := by decide +kernel
theorem d_Md_takes_339 : decode b_Md_takes 339 = .ok (.isub, 1) := by decide +kernel
theorem d_Md_takes_340 : decode b_Md_takes 340 = .ok (.istore 6, 2) := by decide +kernel
theorem d_Md_takes_342 : decode b_Md_takes 342 = .ok (.iload 6, 2) := by decide +kernel
theorem d_Md_takes_344 : decode b_Md_takes 344 = .ok (.iconst 1, 1) := by decide +kernel
theorem d_Md_takes_345 : decode b_Md_takes 345 = .ok (.if_icmp .ge 7, 3) := by decide +kernel
theorem d_Md_takes_348 : decode b_Md_takes 348 = .ok (.iconst 1, 1) := by decide +kernel
theorem d_Md_takes_349 : decode b_Md_takes 349 = .ok (.goto 5, 3) := by decide +kernel
theorem d_Md_takes_352 : decode b_Md_takes 352 = .ok (.iload 6, 2) := by decide +kernel
theorem d_Md_takes_354 : decode b_Md_takes 354 = .ok (.ireturn, 1) := by decide +kernel
def l_Md_takes_54 (n : Nat)  (v1 : Int32) (v2 : Int32) (v3 : Int32) (v4 : Int32) (v5 : Int32) (v6 : Int32) (I : Nat → Int32) (R : Nat → Nat → Int32) : Nat → Int32 → Int32 → Int32 → Option (Int32 × Int32)
  | 0, _, _, _ => none
  | k + 1, v7, v8, v9 => (if (R 1 0) ≤ v9 then some (v7, v8) else (if v7 = 0 then (if v9 = v1 then some 0 else (p_Md_goes n v9 v2 I R).bind fun x10 => (if x10 = 0 then some 0 else if ix (28 + v9) 890 then if ix (28 + v1) 890 then (if (R 1 (28 + v9).toNatClampNeg) ≤ (R 1 (28 + v1).toNatClampNeg) then some 0 else some 1) else none else none)) else some 1 : Option (Int32)).bind fun x8 => (if v8 = 0 then (if v9 = v1 then some 0 else (p_Md_goes n v9 v2 I R).bind fun x16 => (if x16 = 0 then some 0 else if ix (10 + v9) 890 then (if (R 1 (10 + v9).toNatClampNeg) = 4 then some 1 else some 0) else none)) else some 1 : Option (Int32)).bind fun x14 => l_Md_takes_54 n v1 v2 v3 v4 v5 v6 I R k x8 x14 (v9 + 1))
set_option maxHeartbeats 4000000 in
theorem wl_Md_takes_54 {Q : State → Prop}  {p : Program} {l : Launch} {e : Env} {s : State} {m : MethodId} {args : Array Value} {below : List Frame} {meth : Method} {c : Code} {dC : Nat → ClassId} {dI : Nat → Nat → Nat} {ad : Nat → Nat} {cI cZ : ClassId} {A : Nat → Prop} {adK adV : Nat → Nat} (C : mC p s m args c b_Md_takes 10 dC dI cI cZ A adK adV) (hA : ∀ q, s.heap.size ≤ q → A q) (hr : meth.sig.returnType = some .int) (hlk : meth.locks = false) (n : Nat)  (v1 : Int32) (v2 : Int32) (v3 : Int32) (v4 : Int32) (v5 : Int32) (v6 : Int32) (I : Nat → Int32) (R : Nat → Nat → Int32) : ∀ (k : Nat) (v7 : Int32) (v8 : Int32) (v9 : Int32) (r0 : Int32) (r1 : Int32), l_Md_takes_54 n v1 v2 v3 v4 v5 v6 I R k v7 v8 v9 = some (r0, r1) → (∀ (ls : Array Slot), lv_has ls 10 [(0, .ref (ad 0)), (1, .int v1), (2, .int v2), (3, .int v3), (4, .int v4), (5, .int v5), (6, .int v6), (7, .int r0), (8, .int r1)] → ∀ (H : Heap) (locs : List Loc), mH A s.heap dC dI ad cI cZ I R H locs → W p l e (rL 8) s m args below meth c H locs 0 0 Q (F0 m 163 ls [])) → ∀ (ls : Array Slot), lv_has ls 10 [(0, .ref (ad 0)), (1, .int v1), (2, .int v2), (3, .int v3), (4, .int v4), (5, .int v5), (6, .int v6), (7, .int v7), (8, .int v8), (9, .int v9)] → ∀ (H : Heap) (locs : List Loc), mH A s.heap dC dI ad cI cZ I R H locs → W p l e (rL 8) s m args below meth c H locs 0 0 Q (F0 m 54 ls []) := by
  obtain ⟨hx, hb, hml, hown, hT, -⟩ := id C
  intro k
  induction k with
  | zero => intro v7 v8 v9 r0 r1 hf; exact absurd hf (by unfold l_Md_takes_54; exact fun h9 => by cases h9)
  | succ k ih =>
    intro v7 v8 v9 r0 r1 hf K ls hl H locs h
    unfold l_Md_takes_54 at hf
    refine lv_iload hx hb d_Md_takes_54 (lv_at hl 9 rfl) ?_
    refine lv_aload_n hx hb d_Md_takes_56 rfl (lv_at hl 0 rfl) ?_
    refine mg_1 C h d_Md_takes_57 ?_
    refine lv_iconst (v := 0) hx hb d_Md_takes_60 (by decide) ?_
    refine ma_1 C h (j := 0) (by decide) (show ix 0 890 by decide) d_Md_takes_61 ?_
    refine lv_icmp_ge (tgt := 163) hx hb d_Md_takes_62 (by decide) (fun hc => ?_) (fun hc => ?_)
    · have hf := op_t hc hf
      obtain ⟨rfl, rfl⟩ := op_i2 hf
      exact K ls (lv_sub hl [0, 1, 2, 3, 4, 5, 6, 7, 8] rfl) H locs h
    · have hf := op_f hc hf
      refine lv_iload hx hb d_Md_takes_65 (lv_at hl 7 rfl) ?_
      obtain ⟨x8, he, hf⟩ := op_bind hf
      have K7 : ∀ (ls : Array Slot), lv_has ls 10 [(0, .ref (ad 0)), (1, .int v1), (2, .int v2), (3, .int v3), (4, .int v4), (5, .int v5), (6, .int v6), (8, .int v8), (9, .int v9)] → ∀ (H : Heap) (locs : List Loc), mH A s.heap dC dI ad cI cZ I R H locs → W p l e (rL 8) s m args below meth c H locs 0 0 Q (F0 m 113 ls [.int x8]) := by
        intro ls hl H locs h
        refine lv_istore (lv' := [(7, .int x8), (0, .ref (ad 0)), (1, .int v1), (2, .int v2), (3, .int v3), (4, .int v4), (5, .int v5), (6, .int v6), (8, .int v8), (9, .int v9)]) hx hb d_Md_takes_113 hl (by decide) rfl (fun ls hl => ?_)
        refine lv_iload hx hb d_Md_takes_115 (lv_at hl 8 rfl) ?_
        obtain ⟨x14, he, hf⟩ := op_bind hf
        have K13 : ∀ (ls : Array Slot), lv_has ls 10 [(0, .ref (ad 0)), (1, .int v1), (2, .int v2), (3, .int v3), (4, .int v4), (5, .int v5), (6, .int v6), (7, .int x8), (9, .int v9)] → ∀ (H : Heap) (locs : List Loc), mH A s.heap dC dI ad cI cZ I R H locs → W p l e (rL 8) s m args below meth c H locs 0 0 Q (F0 m 155 ls [.int x14]) := by
          intro ls hl H locs h
          refine lv_istore (lv' := [(8, .int x14), (0, .ref (ad 0)), (1, .int v1), (2, .int v2), (3, .int v3), (4, .int v4), (5, .int v5), (6, .int v6), (7, .int x8), (9, .int v9)]) hx hb d_Md_takes_155 hl (by decide) rfl (fun ls hl => ?_)
          refine lv_iinc (v := (v9 + 1)) (lv' := [(9, .int (v9 + 1)), (8, .int x14), (0, .ref (ad 0)), (1, .int v1), (2, .int v2), (3, .int v3), (4, .int v4), (5, .int v5), (6, .int v6), (7, .int x8)]) hx hb d_Md_takes_157 hl (k := 9) rfl rfl (by decide) rfl (fun ls hl => ?_)
          refine lv_goto (tgt := 54) hx hb d_Md_takes_160 (by decide) ?_
          exact ih x8 x14 (v9 + 1) _ _ hf K ls (lv_sub hl [2, 3, 4, 5, 6, 7, 8, 9, 1, 0] rfl) H locs h
        have hf := he
        refine lv_if_ne (tgt := 150) hx hb d_Md_takes_117 (by decide) (fun hc => ?_) (fun hc => ?_)
        · have hf := op_f hc hf
          refine lv_iconst (v := 1) hx hb d_Md_takes_150 (by decide) ?_
          refine lv_goto (tgt := 155) hx hb d_Md_takes_151 (by decide) ?_
          obtain rfl := op_i1 hf
          exact K13 ls (lv_sub hl [1, 2, 3, 4, 5, 6, 7, 0, 9] rfl) H locs h
        · have hf := op_t hc hf
          refine lv_iload hx hb d_Md_takes_120 (lv_at hl 9 rfl) ?_
          refine lv_iload_n hx hb d_Md_takes_122 rfl (lv_at hl 2 rfl) ?_
          refine lv_icmp_eq (tgt := 154) hx hb d_Md_takes_123 (by decide) (fun hc => ?_) (fun hc => ?_)
          · have hf := op_t hc hf
            refine lv_iconst (v := 0) hx hb d_Md_takes_154 (by decide) ?_
            obtain rfl := op_i1 hf
            exact K13 ls (lv_sub hl [1, 2, 3, 4, 5, 6, 7, 0, 9] rfl) H locs h
          · have hf := op_f hc hf
            refine lv_aload_n hx hb d_Md_takes_126 rfl (lv_at hl 1 rfl) ?_
            refine lv_iload hx hb d_Md_takes_127 (lv_at hl 9 rfl) ?_
            refine lv_iload_n hx hb d_Md_takes_129 rfl (lv_at hl 3 rfl) ?_
            obtain ⟨x16, hc15, hf⟩ := op_bind hf
            refine kc_r (rest := []) C h hA (c_Md_goes l n v9 v2 I R) hc15 (cbW 2 hT cd_Md_goes rfl rfl ini_Md ml_Md_153 hd_Md_goes ⟨Nat.le_of_ble_eq_true rfl, Nat.le_of_ble_eq_true rfl⟩) im_Md_goes sp_Md_goes rfl hl.1 rfl (Nat.le_of_ble_eq_true rfl) d_Md_takes_130 ⟨Nat.zero_le _, Nat.zero_le _⟩ (fun H locs h => ?_)
            refine lv_if_eq (tgt := 154) hx hb d_Md_takes_133 (by decide) (fun hc => ?_) (fun hc => ?_)
            · have hf := op_t hc hf
              refine lv_iconst (v := 0) hx hb d_Md_takes_154 (by decide) ?_
              obtain rfl := op_i1 hf
              exact K13 ls (lv_sub hl [1, 2, 3, 4, 5, 6, 7, 0, 9] rfl) H locs h
            · have hf := op_f hc hf
              refine lv_aload_n hx hb d_Md_takes_136 rfl (lv_at hl 1 rfl) ?_
              refine mg_1 C h d_Md_takes_137 ?_
              refine lv_bipush (v := 10) hx hb d_Md_takes_140 (by decide) ?_
              refine lv_iload hx hb d_Md_takes_142 (lv_at hl 9 rfl) ?_
              refine lv_iadd hx hb d_Md_takes_144 ?_
              obtain ⟨h17, hf⟩ := op_if hf
              refine ma_1 C h rfl h17 d_Md_takes_145 ?_
              refine lv_iconst (v := 4) hx hb d_Md_takes_146 (by decide) ?_
              refine lv_icmp_ne (tgt := 154) hx hb d_Md_takes_147 (by decide) (fun hc => ?_) (fun hc => ?_)
              · have hf := op_f hc hf
                refine lv_iconst (v := 0) hx hb d_Md_takes_154 (by decide) ?_
                obtain rfl := op_i1 hf
                exact K13 ls (lv_sub hl [1, 2, 3, 4, 5, 6, 7, 0, 9] rfl) H locs h
              · have hf := op_t hc hf
                refine lv_iconst (v := 1) hx hb d_Md_takes_150 (by decide) ?_
                refine lv_goto (tgt := 155) hx hb d_Md_takes_151 (by decide) ?_
                obtain rfl := op_i1 hf
                exact K13 ls (lv_sub hl [1, 2, 3, 4, 5, 6, 7, 0, 9] rfl) H locs h
      have hf := he
      refine lv_if_ne (tgt := 108) hx hb d_Md_takes_67 (by decide) (fun hc => ?_) (fun hc => ?_)
      · have hf := op_f hc hf
        refine lv_iconst (v := 1) hx hb d_Md_takes_108 (by decide) ?_
        refine lv_goto (tgt := 113) hx hb d_Md_takes_109 (by decide) ?_
        obtain rfl := op_i1 hf
        exact K7 ls (lv_sub hl [0, 1, 2, 3, 4, 5, 6, 8, 9] rfl) H locs h
      · have hf := op_t hc hf
        refine lv_iload hx hb d_Md_takes_70 (lv_at hl 9 rfl) ?_
        refine lv_iload_n hx hb d_Md_takes_72 rfl (lv_at hl 1 rfl) ?_
        refine lv_icmp_eq (tgt := 112) hx hb d_Md_takes_73 (by decide) (fun hc => ?_) (fun hc => ?_)
        · have hf := op_t hc hf
          refine lv_iconst (v := 0) hx hb d_Md_takes_112 (by decide) ?_
          obtain rfl := op_i1 hf
          exact K7 ls (lv_sub hl [0, 1, 2, 3, 4, 5, 6, 8, 9] rfl) H locs h
        · have hf := op_f hc hf
          refine lv_aload_n hx hb d_Md_takes_76 rfl (lv_at hl 0 rfl) ?_
          refine lv_iload hx hb d_Md_takes_77 (lv_at hl 9 rfl) ?_
          refine lv_iload_n hx hb d_Md_takes_79 rfl (lv_at hl 2 rfl) ?_
          obtain ⟨x10, hc9, hf⟩ := op_bind hf
          refine kc_r (rest := []) C h hA (c_Md_goes l n v9 v2 I R) hc9 (cbW 2 hT cd_Md_goes rfl rfl ini_Md ml_Md_153 hd_Md_goes ⟨Nat.le_of_ble_eq_true rfl, Nat.le_of_ble_eq_true rfl⟩) im_Md_goes sp_Md_goes rfl hl.1 rfl (Nat.le_of_ble_eq_true rfl) d_Md_takes_80 ⟨Nat.zero_le _, Nat.zero_le _⟩ (fun H locs h => ?_)
          refine lv_if_eq (tgt := 112) hx hb d_Md_takes_83 (by decide) (fun hc => ?_) (fun hc => ?_)
          · have hf := op_t hc hf
            refine lv_iconst (v := 0) hx hb d_Md_takes_112 (by decide) ?_
            obtain rfl := op_i1 hf
            exact K7 ls (lv_sub hl [0, 1, 2, 3, 4, 5, 6, 8, 9] rfl) H locs h
          · have hf := op_f hc hf
            refine lv_aload_n hx hb d_Md_takes_86 rfl (lv_at hl 0 rfl) ?_
            refine mg_1 C h d_Md_takes_87 ?_
            refine lv_bipush (v := 28) hx hb d_Md_takes_90 (by decide) ?_
            refine lv_iload hx hb d_Md_takes_92 (lv_at hl 9 rfl) ?_
            refine lv_iadd hx hb d_Md_takes_94 ?_
            obtain ⟨h11, hf⟩ := op_if hf
            refine ma_1 C h rfl h11 d_Md_takes_95 ?_
            refine lv_aload_n hx hb d_Md_takes_96 rfl (lv_at hl 0 rfl) ?_
            refine mg_1 C h d_Md_takes_97 ?_
            refine lv_bipush (v := 28) hx hb d_Md_takes_100 (by decide) ?_
            refine lv_iload_n hx hb d_Md_takes_102 rfl (lv_at hl 1 rfl) ?_
            refine lv_iadd hx hb d_Md_takes_103 ?_
            obtain ⟨h12, hf⟩ := op_if hf
            refine ma_1 C h rfl h12 d_Md_takes_104 ?_
            refine lv_icmp_le (tgt := 112) hx hb d_Md_takes_105 (by decide) (fun hc => ?_) (fun hc => ?_)
            · have hf := op_t hc hf
              refine lv_iconst (v := 0) hx hb d_Md_takes_112 (by decide) ?_
              obtain rfl := op_i1 hf
              exact K7 ls (lv_sub hl [0, 1, 2, 3, 4, 5, 6, 8, 9] rfl) H locs h
            · have hf := op_f hc hf
              refine lv_iconst (v := 1) hx hb d_Md_takes_108 (by decide) ?_
              refine lv_goto (tgt := 113) hx hb d_Md_takes_109 (by decide) ?_
              obtain rfl := op_i1 hf
              exact K7 ls (lv_sub hl [0, 1, 2, 3, 4, 5, 6, 8, 9] rfl) H locs h
def p_Md_takes (n : Nat) (v1 : Int32) (v2 : Int32) (v3 : Int32) (I : Nat → Int32) (R : Nat → Nat → Int32) : Option (Int32 × MU) := (p_Md_looks n v1 v2 v3 I R).bind fun (I2, R3) => if ix (16 + v1) 890 then if ix (10 + v1) 890 then if ix (22 + v1) 890 then (l_Md_takes_54 n v1 v2 v3 (R3 1 (16 + v1).toNatClampNeg) (R3 1 (10 + v1).toNatClampNeg) (((R3 1 (22 + v1).toNatClampNeg) + (I2 11))) I2 R3 n 0 0 0).bind fun (y18, y19) => (p_Md_count1 n v2).bind fun x21 => (if x21 = 1 then some 1 else some 0 : Option (Int32)).bind fun x23 => (if (R3 1 (10 + v1).toNatClampNeg) = 1 then (if x23 = 0 then some 0 else some (R3 1 (16 + v1).toNatClampNeg)) else (if (R3 1 (10 + v1).toNatClampNeg) = 4 then (if x23 = 0 then some 0 else some (R3 1 (16 + v1).toNatClampNeg)) else some 0) : Option (Int32)).bind fun x25 => (if (R3 1 (10 + v1).toNatClampNeg) = 2 then (if y18 = 0 then some (R3 1 (16 + v1).toNatClampNeg) else some 0) else (if (R3 1 (10 + v1).toNatClampNeg) = 5 then (if y18 = 0 then some (R3 1 (16 + v1).toNatClampNeg) else some 0) else some 0) : Option (Int32)).bind fun x27 => (if (R3 1 (10 + v1).toNatClampNeg) = 5 then (if x23 = 0 then some ((((((R3 1 (22 + v1).toNatClampNeg) + (I2 11)) - x25) + x27) + 1) / 2) else some ((((R3 1 (22 + v1).toNatClampNeg) + (I2 11)) - x25) + x27)) else some ((((R3 1 (22 + v1).toNatClampNeg) + (I2 11)) - x25) + x27) : Option (Int32)).bind fun x29 => (if (R3 1 (10 + v1).toNatClampNeg) = 3 then (p_Md_goes n (v1 - 1) v2 I2 R3).bind fun x33 => (if x33 = 0 then (p_Md_goes n (v1 + 1) v2 I2 R3).bind fun x35 => (if x35 = 0 then some (R3 1 (16 + v1).toNatClampNeg) else some 0) else some 0) else (if (R3 1 (10 + v1).toNatClampNeg) = 6 then (p_Md_goes n (v1 - 1) v2 I2 R3).bind fun x37 => (if x37 = 0 then (p_Md_goes n (v1 + 1) v2 I2 R3).bind fun x39 => (if x39 = 0 then some (R3 1 (16 + v1).toNatClampNeg) else some 0) else some 0) else some 0) : Option (Int32)).bind fun x31 => (if (R3 1 (10 + v1).toNatClampNeg) = 6 then (if v3 = 1 then some (R3 1 (16 + v1).toNatClampNeg) else some 0) else some 0 : Option (Int32)).bind fun x41 => (if y19 = 0 then some 0 else some 1 : Option (Int32)).bind fun x43 => (if 1 ≤ (((x29 + x31) + x41) - x43) then some (((x29 + x31) + x41) - x43) else some 1 : Option (Int32)).bind fun x45 => some (x45, I2, R3) else none else none else none
set_option maxHeartbeats 4000000 in
theorem c_Md_takes (l : Launch) (n : Nat) (v1 : Int32) (v2 : Int32) (v3 : Int32) (I : Nat → Int32) (R : Nat → Nat → Int32)  : MMi l y_Md_takes b_Md_takes 10 .int (rL 8) (fun ad adK => [.int v1, .int v2, .int v3]) I R (p_Md_takes n v1 v2 v3 I R) := by
  refine en_mi (by decide) rfl (fun _ _ => Nat.le_of_ble_eq_true rfl) ?_
  intro z hf p e s m args below meth c dC dI ad cI cZ A adK adV ls C hA h hr hlk hl
  have hl : lv_has ls 10 [(0, .ref (ad 0)), (1, .int v1), (2, .int v2), (3, .int v3)] := hl
  unfold p_Md_takes at hf
  obtain ⟨hx, hb, hml, hown, hT, -⟩ := id C
  refine lv_aload_n hx hb d_Md_takes_0 rfl (lv_at hl 0 rfl) ?_
  refine lv_iload_n hx hb d_Md_takes_1 rfl (lv_at hl 1 rfl) ?_
  refine lv_iload_n hx hb d_Md_takes_2 rfl (lv_at hl 2 rfl) ?_
  refine lv_iload_n hx hb d_Md_takes_3 rfl (lv_at hl 3 rfl) ?_
  obtain ⟨⟨I2, R3⟩, hc1, hf⟩ := op_bind hf
  try dsimp only at hf
  refine kc_v (rest := []) C h hA (c_Md_looks l n v1 v2 v3 I R) hc1 (cbW 3 hT cd_Md_looks rfl rfl ini_Md ml_Md_149 hd_Md_looks ⟨Nat.le_of_ble_eq_true rfl, Nat.le_of_ble_eq_true rfl⟩) im_Md_looks sp_Md_looks rfl hl.1 rfl (Nat.le_of_ble_eq_true rfl) d_Md_takes_4 ⟨Nat.zero_le _, Nat.zero_le _⟩ (fun H locs h => ?_)
  refine lv_aload_n hx hb d_Md_takes_7 rfl (lv_at hl 0 rfl) ?_
  refine mg_1 C h d_Md_takes_8 ?_
  refine lv_bipush (v := 16) hx hb d_Md_takes_11 (by decide) ?_
  refine lv_iload_n hx hb d_Md_takes_13 rfl (lv_at hl 1 rfl) ?_
  refine lv_iadd hx hb d_Md_takes_14 ?_
  obtain ⟨h4, hf⟩ := op_if hf
  refine ma_1 C h rfl h4 d_Md_takes_15 ?_
  refine lv_istore (lv' := [(4, .int (R3 1 (16 + v1).toNatClampNeg)), (0, .ref (ad 0)), (1, .int v1), (2, .int v2), (3, .int v3)]) hx hb d_Md_takes_16 hl (by decide) rfl (fun ls hl => ?_)
  refine lv_aload_n hx hb d_Md_takes_18 rfl (lv_at hl 1 rfl) ?_
  refine mg_1 C h d_Md_takes_19 ?_
  refine lv_bipush (v := 10) hx hb d_Md_takes_22 (by decide) ?_
  refine lv_iload_n hx hb d_Md_takes_24 rfl (lv_at hl 2 rfl) ?_
  refine lv_iadd hx hb d_Md_takes_25 ?_
  obtain ⟨h5, hf⟩ := op_if hf
  refine ma_1 C h rfl h5 d_Md_takes_26 ?_
  refine lv_istore (lv' := [(5, .int (R3 1 (10 + v1).toNatClampNeg)), (4, .int (R3 1 (16 + v1).toNatClampNeg)), (0, .ref (ad 0)), (1, .int v1), (2, .int v2), (3, .int v3)]) hx hb d_Md_takes_27 hl (by decide) rfl (fun ls hl => ?_)
  refine lv_aload_n hx hb d_Md_takes_29 rfl (lv_at hl 2 rfl) ?_
  refine mg_1 C h d_Md_takes_30 ?_
  refine lv_bipush (v := 22) hx hb d_Md_takes_33 (by decide) ?_
  refine lv_iload_n hx hb d_Md_takes_35 rfl (lv_at hl 3 rfl) ?_
  refine lv_iadd hx hb d_Md_takes_36 ?_
  obtain ⟨h6, hf⟩ := op_if hf
  refine ma_1 C h rfl h6 d_Md_takes_37 ?_
  refine lv_aload_n hx hb d_Md_takes_38 rfl (lv_at hl 2 rfl) ?_
  refine mg_11 C h d_Md_takes_39 ?_
  refine lv_iadd hx hb d_Md_takes_42 ?_
  refine lv_istore (lv' := [(6, .int ((R3 1 (22 + v1).toNatClampNeg) + (I2 11))), (5, .int (R3 1 (10 + v1).toNatClampNeg)), (4, .int (R3 1 (16 + v1).toNatClampNeg)), (0, .ref (ad 0)), (1, .int v1), (2, .int v2), (3, .int v3)]) hx hb d_Md_takes_43 hl (by decide) rfl (fun ls hl => ?_)
  refine lv_iconst (v := 0) hx hb d_Md_takes_45 (by decide) ?_
  refine lv_istore (lv' := [(7, .int 0), (6, .int ((R3 1 (22 + v1).toNatClampNeg) + (I2 11))), (5, .int (R3 1 (10 + v1).toNatClampNeg)), (4, .int (R3 1 (16 + v1).toNatClampNeg)), (0, .ref (ad 0)), (1, .int v1), (2, .int v2), (3, .int v3)]) hx hb d_Md_takes_46 hl (by decide) rfl (fun ls hl => ?_)
  refine lv_iconst (v := 0) hx hb d_Md_takes_48 (by decide) ?_
  refine lv_istore (lv' := [(8, .int 0), (7, .int 0), (6, .int ((R3 1 (22 + v1).toNatClampNeg) + (I2 11))), (5, .int (R3 1 (10 + v1).toNatClampNeg)), (4, .int (R3 1 (16 + v1).toNatClampNeg)), (0, .ref (ad 0)), (1, .int v1), (2, .int v2), (3, .int v3)]) hx hb d_Md_takes_49 hl (by decide) rfl (fun ls hl => ?_)
  refine lv_iconst (v := 0) hx hb d_Md_takes_51 (by decide) ?_
  refine lv_istore (lv' := [(9, .int 0), (8, .int 0), (7, .int 0), (6, .int ((R3 1 (22 + v1).toNatClampNeg) + (I2 11))), (5, .int (R3 1 (10 + v1).toNatClampNeg)), (4, .int (R3 1 (16 + v1).toNatClampNeg)), (0, .ref (ad 0)), (1, .int v1), (2, .int v2), (3, .int v3)]) hx hb d_Md_takes_52 hl (by decide) rfl (fun ls hl => ?_)
  obtain ⟨⟨y18, y19⟩, he, hf⟩ := op_bind hf
  try dsimp only at hf
  refine wl_Md_takes_54 C hA hr hlk n v1 v2 v3 (R3 1 (16 + v1).toNatClampNeg) (R3 1 (10 + v1).toNatClampNeg) (((R3 1 (22 + v1).toNatClampNeg) + (I2 11))) I2 R3 n 0 0 0 _ _ he (fun ls hl H locs h => ?_) ls (lv_sub hl [6, 7, 8, 9, 5, 4, 3, 2, 1, 0] rfl) H locs h
  refine lv_iload_n hx hb d_Md_takes_163 rfl (lv_at hl 2 rfl) ?_
  obtain ⟨x21, hc20, hf⟩ := op_bind hf
  refine ks_i (rest := []) hx hb hml hown hT (c_Md_count1 l n v2 _ hc20) (cbW 1 hT cd_Md_count1 rfl rfl ini_Md ml_Md_139 hd_Md_count1 ⟨Nat.le_of_ble_eq_true rfl, Nat.le_of_ble_eq_true rfl⟩) sm_Md_count1 rfl hl.1 rfl (Nat.le_of_ble_eq_true rfl) d_Md_takes_164 ⟨Nat.zero_le _, Nat.zero_le _⟩ ?_
  refine lv_iconst (v := 1) hx hb d_Md_takes_167 (by decide) ?_
  obtain ⟨x23, he, hf⟩ := op_bind hf
  have K22 : ∀ (ls : Array Slot), lv_has ls 10 [(0, .ref (ad 0)), (1, .int v1), (2, .int v2), (3, .int v3), (4, .int (R3 1 (16 + v1).toNatClampNeg)), (5, .int (R3 1 (10 + v1).toNatClampNeg)), (6, .int ((R3 1 (22 + v1).toNatClampNeg) + (I2 11))), (7, .int y18), (8, .int y19)] → ∀ (H : Heap) (locs : List Loc), mH A s.heap dC dI ad cI cZ I2 R3 H locs → W p l e (rL 8) s m args below meth c H locs 0 0 (mQi dC dI ad cI cZ A below args s z) (F0 m 176 ls [.int x23]) := by
    intro ls hl H locs h
    refine lv_istore (lv' := [(9, .int x23), (0, .ref (ad 0)), (1, .int v1), (2, .int v2), (3, .int v3), (4, .int (R3 1 (16 + v1).toNatClampNeg)), (5, .int (R3 1 (10 + v1).toNatClampNeg)), (6, .int ((R3 1 (22 + v1).toNatClampNeg) + (I2 11))), (7, .int y18), (8, .int y19)]) hx hb d_Md_takes_176 hl (by decide) rfl (fun ls hl => ?_)
    refine lv_iload hx hb d_Md_takes_178 (lv_at hl 7 rfl) ?_
    refine lv_iload hx hb d_Md_takes_180 (lv_at hl 6 rfl) ?_
    refine lv_iconst (v := 1) hx hb d_Md_takes_182 (by decide) ?_
    obtain ⟨x25, he, hf⟩ := op_bind hf
    have K24 : ∀ (ls : Array Slot), lv_has ls 10 [(0, .ref (ad 0)), (1, .int v1), (2, .int v2), (3, .int v3), (4, .int (R3 1 (16 + v1).toNatClampNeg)), (5, .int (R3 1 (10 + v1).toNatClampNeg)), (7, .int y18), (8, .int y19), (9, .int x23)] → ∀ (H : Heap) (locs : List Loc), mH A s.heap dC dI ad cI cZ I2 R3 H locs → W p l e (rL 8) s m args below meth c H locs 0 0 (mQi dC dI ad cI cZ A below args s z) (F0 m 203 ls [.int x25, .int ((R3 1 (22 + v1).toNatClampNeg) + (I2 11))]) := by
      intro ls hl H locs h
      refine lv_isub hx hb d_Md_takes_203 ?_
      refine lv_istore (lv' := [(6, .int (((R3 1 (22 + v1).toNatClampNeg) + (I2 11)) - x25)), (0, .ref (ad 0)), (1, .int v1), (2, .int v2), (3, .int v3), (4, .int (R3 1 (16 + v1).toNatClampNeg)), (5, .int (R3 1 (10 + v1).toNatClampNeg)), (7, .int y18), (8, .int y19), (9, .int x23)]) hx hb d_Md_takes_204 hl (by decide) rfl (fun ls hl => ?_)
      refine lv_iload hx hb d_Md_takes_206 (lv_at hl 0 rfl) ?_
      refine lv_iload hx hb d_Md_takes_208 (lv_at hl 6 rfl) ?_
      refine lv_iconst (v := 2) hx hb d_Md_takes_210 (by decide) ?_
      obtain ⟨x27, he, hf⟩ := op_bind hf
      have K26 : ∀ (ls : Array Slot), lv_has ls 10 [(0, .ref (ad 0)), (1, .int v1), (2, .int v2), (3, .int v3), (4, .int (R3 1 (16 + v1).toNatClampNeg)), (5, .int (R3 1 (10 + v1).toNatClampNeg)), (8, .int y19), (9, .int x23)] → ∀ (H : Heap) (locs : List Loc), mH A s.heap dC dI ad cI cZ I2 R3 H locs → W p l e (rL 8) s m args below meth c H locs 0 0 (mQi dC dI ad cI cZ A below args s z) (F0 m 231 ls [.int x27, .int (((R3 1 (22 + v1).toNatClampNeg) + (I2 11)) - x25)]) := by
        intro ls hl H locs h
        refine lv_iadd hx hb d_Md_takes_231 ?_
        refine lv_istore (lv' := [(6, .int ((((R3 1 (22 + v1).toNatClampNeg) + (I2 11)) - x25) + x27)), (0, .ref (ad 0)), (1, .int v1), (2, .int v2), (3, .int v3), (4, .int (R3 1 (16 + v1).toNatClampNeg)), (5, .int (R3 1 (10 + v1).toNatClampNeg)), (8, .int y19), (9, .int x23)]) hx hb d_Md_takes_232 hl (by decide) rfl (fun ls hl => ?_)
        refine lv_iload hx hb d_Md_takes_234 (lv_at hl 6 rfl) ?_
        refine lv_iconst (v := 5) hx hb d_Md_takes_236 (by decide) ?_
        obtain ⟨x29, he, hf⟩ := op_bind hf
        have K28 : ∀ (ls : Array Slot), lv_has ls 10 [(0, .ref (ad 0)), (1, .int v1), (2, .int v2), (3, .int v3), (4, .int (R3 1 (16 + v1).toNatClampNeg)), (5, .int (R3 1 (10 + v1).toNatClampNeg)), (8, .int y19)] → ∀ (H : Heap) (locs : List Loc), mH A s.heap dC dI ad cI cZ I2 R3 H locs → W p l e (rL 8) s m args below meth c H locs 0 0 (mQi dC dI ad cI cZ A below args s z) (F0 m 256 ls [.int x29]) := by
          intro ls hl H locs h
          refine lv_istore (lv' := [(6, .int x29), (0, .ref (ad 0)), (1, .int v1), (2, .int v2), (3, .int v3), (4, .int (R3 1 (16 + v1).toNatClampNeg)), (5, .int (R3 1 (10 + v1).toNatClampNeg)), (8, .int y19)]) hx hb d_Md_takes_256 hl (by decide) rfl (fun ls hl => ?_)
          refine lv_iload hx hb d_Md_takes_258 (lv_at hl 0 rfl) ?_
          refine lv_iload hx hb d_Md_takes_260 (lv_at hl 6 rfl) ?_
          refine lv_iconst (v := 3) hx hb d_Md_takes_262 (by decide) ?_
          obtain ⟨x31, he, hf⟩ := op_bind hf
          have K30 : ∀ (ls : Array Slot), lv_has ls 10 [(3, .int v3), (4, .int (R3 1 (16 + v1).toNatClampNeg)), (5, .int (R3 1 (10 + v1).toNatClampNeg)), (8, .int y19)] → ∀ (H : Heap) (locs : List Loc), mH A s.heap dC dI ad cI cZ I2 R3 H locs → W p l e (rL 8) s m args below meth c H locs 0 0 (mQi dC dI ad cI cZ A below args s z) (F0 m 301 ls [.int x31, .int x29]) := by
            intro ls hl H locs h
            refine lv_iadd hx hb d_Md_takes_301 ?_
            refine lv_istore (lv' := [(6, .int (x29 + x31)), (3, .int v3), (4, .int (R3 1 (16 + v1).toNatClampNeg)), (5, .int (R3 1 (10 + v1).toNatClampNeg)), (8, .int y19)]) hx hb d_Md_takes_302 hl (by decide) rfl (fun ls hl => ?_)
            refine lv_iload hx hb d_Md_takes_304 (lv_at hl 0 rfl) ?_
            refine lv_iload hx hb d_Md_takes_306 (lv_at hl 3 rfl) ?_
            refine lv_bipush (v := 6) hx hb d_Md_takes_308 (by decide) ?_
            obtain ⟨x41, he, hf⟩ := op_bind hf
            have K40 : ∀ (ls : Array Slot), lv_has ls 10 [(8, .int y19)] → ∀ (H : Heap) (locs : List Loc), mH A s.heap dC dI ad cI cZ I2 R3 H locs → W p l e (rL 8) s m args below meth c H locs 0 0 (mQi dC dI ad cI cZ A below args s z) (F0 m 324 ls [.int x41, .int (x29 + x31)]) := by
              intro ls hl H locs h
              refine lv_iadd hx hb d_Md_takes_324 ?_
              refine lv_istore (lv' := [(6, .int ((x29 + x31) + x41)), (8, .int y19)]) hx hb d_Md_takes_325 hl (by decide) rfl (fun ls hl => ?_)
              refine lv_iload hx hb d_Md_takes_327 (lv_at hl 0 rfl) ?_
              refine lv_iload hx hb d_Md_takes_329 (lv_at hl 1 rfl) ?_
              obtain ⟨x43, he, hf⟩ := op_bind hf
              have K42 : ∀ (ls : Array Slot), lv_has ls 10 [] → ∀ (H : Heap) (locs : List Loc), mH A s.heap dC dI ad cI cZ I2 R3 H locs → W p l e (rL 8) s m args below meth c H locs 0 0 (mQi dC dI ad cI cZ A below args s z) (F0 m 339 ls [.int x43, .int ((x29 + x31) + x41)]) := by
                intro ls hl H locs h
                refine lv_isub hx hb d_Md_takes_339 ?_
                refine lv_istore (lv' := [(6, .int (((x29 + x31) + x41) - x43))]) hx hb d_Md_takes_340 hl (by decide) rfl (fun ls hl => ?_)
                refine lv_iload hx hb d_Md_takes_342 (lv_at hl 0 rfl) ?_
                refine lv_iconst (v := 1) hx hb d_Md_takes_344 (by decide) ?_
                obtain ⟨x45, he, hf⟩ := op_bind hf
                have K44 : ∀ (ls : Array Slot), lv_has ls 10 [] → ∀ (H : Heap) (locs : List Loc), mH A s.heap dC dI ad cI cZ I2 R3 H locs → W p l e (rL 8) s m args below meth c H locs 0 0 (mQi dC dI ad cI cZ A below args s z) (F0 m 354 ls [.int x45]) := by
                  intro ls hl H locs h
                  exact rt_mi C h hr hlk hf rfl d_Md_takes_354
                have hf := he
                refine lv_icmp_ge (tgt := 352) hx hb d_Md_takes_345 (by decide) (fun hc => ?_) (fun hc => ?_)
                · have hf := op_t hc hf
                  refine lv_iload hx hb d_Md_takes_352 (lv_at hl 0 rfl) ?_
                  obtain rfl := op_i1 hf
                  exact K44 ls (lv_sub hl [] rfl) H locs h
                · have hf := op_f hc hf
                  refine lv_iconst (v := 1) hx hb d_Md_takes_348 (by decide) ?_
                  refine lv_goto (tgt := 354) hx hb d_Md_takes_349 (by decide) ?_
                  obtain rfl := op_i1 hf
                  exact K44 ls (lv_sub hl [] rfl) H locs h
              have hf := he
              refine lv_if_eq (tgt := 338) hx hb d_Md_takes_331 (by decide) (fun hc => ?_) (fun hc => ?_)
              · have hf := op_t hc hf
                refine lv_iconst (v := 0) hx hb d_Md_takes_338 (by decide) ?_
                obtain rfl := op_i1 hf
                exact K42 ls (lv_sub hl [] rfl) H locs h
              · have hf := op_f hc hf
                refine lv_iconst (v := 1) hx hb d_Md_takes_334 (by decide) ?_
                refine lv_goto (tgt := 339) hx hb d_Md_takes_335 (by decide) ?_
                obtain rfl := op_i1 hf
                exact K42 ls (lv_sub hl [] rfl) H locs h
            have hf := he
            refine lv_icmp_ne (tgt := 323) hx hb d_Md_takes_310 (by decide) (fun hc => ?_) (fun hc => ?_)
            · have hf := op_f hc hf
              refine lv_iconst (v := 0) hx hb d_Md_takes_323 (by decide) ?_
              obtain rfl := op_i1 hf
              exact K40 ls (lv_sub hl [4] rfl) H locs h
            · have hf := op_t hc hf
              refine lv_iload_n hx hb d_Md_takes_313 rfl (lv_at hl 1 rfl) ?_
              refine lv_iconst (v := 1) hx hb d_Md_takes_314 (by decide) ?_
              refine lv_icmp_ne (tgt := 323) hx hb d_Md_takes_315 (by decide) (fun hc => ?_) (fun hc => ?_)
              · have hf := op_f hc hf
                refine lv_iconst (v := 0) hx hb d_Md_takes_323 (by decide) ?_
                obtain rfl := op_i1 hf
                exact K40 ls (lv_sub hl [4] rfl) H locs h
              · have hf := op_t hc hf
                refine lv_iload hx hb d_Md_takes_318 (lv_at hl 2 rfl) ?_
                refine lv_goto (tgt := 324) hx hb d_Md_takes_320 (by decide) ?_
                obtain rfl := op_i1 hf
                exact K40 ls (lv_sub hl [4] rfl) H locs h
          have hf := he
          refine lv_icmp_eq (tgt := 273) hx hb d_Md_takes_263 (by decide) (fun hc => ?_) (fun hc => ?_)
          · have hf := op_t hc hf
            refine lv_aload_n hx hb d_Md_takes_273 rfl (lv_at hl 1 rfl) ?_
            refine lv_iload_n hx hb d_Md_takes_274 rfl (lv_at hl 2 rfl) ?_
            refine lv_iconst (v := 1) hx hb d_Md_takes_275 (by decide) ?_
            refine lv_isub hx hb d_Md_takes_276 ?_
            refine lv_iload_n hx hb d_Md_takes_277 rfl (lv_at hl 3 rfl) ?_
            obtain ⟨x33, hc32, hf⟩ := op_bind hf
            refine kc_r (rest := [.int x29]) C h hA (c_Md_goes l n (v1 - 1) v2 I2 R3) hc32 (cbW 2 hT cd_Md_goes rfl rfl ini_Md ml_Md_153 hd_Md_goes ⟨Nat.le_of_ble_eq_true rfl, Nat.le_of_ble_eq_true rfl⟩) im_Md_goes sp_Md_goes rfl hl.1 rfl (Nat.le_of_ble_eq_true rfl) d_Md_takes_278 ⟨Nat.zero_le _, Nat.zero_le _⟩ (fun H locs h => ?_)
            refine lv_if_ne (tgt := 300) hx hb d_Md_takes_281 (by decide) (fun hc => ?_) (fun hc => ?_)
            · have hf := op_f hc hf
              refine lv_iconst (v := 0) hx hb d_Md_takes_300 (by decide) ?_
              obtain rfl := op_i1 hf
              exact K30 ls (lv_sub hl [4, 5, 6, 7] rfl) H locs h
            · have hf := op_t hc hf
              refine lv_aload_n hx hb d_Md_takes_284 rfl (lv_at hl 1 rfl) ?_
              refine lv_iload_n hx hb d_Md_takes_285 rfl (lv_at hl 2 rfl) ?_
              refine lv_iconst (v := 1) hx hb d_Md_takes_286 (by decide) ?_
              refine lv_iadd hx hb d_Md_takes_287 ?_
              refine lv_iload_n hx hb d_Md_takes_288 rfl (lv_at hl 3 rfl) ?_
              obtain ⟨x35, hc34, hf⟩ := op_bind hf
              refine kc_r (rest := [.int x29]) C h hA (c_Md_goes l n (v1 + 1) v2 I2 R3) hc34 (cbW 2 hT cd_Md_goes rfl rfl ini_Md ml_Md_153 hd_Md_goes ⟨Nat.le_of_ble_eq_true rfl, Nat.le_of_ble_eq_true rfl⟩) im_Md_goes sp_Md_goes rfl hl.1 rfl (Nat.le_of_ble_eq_true rfl) d_Md_takes_289 ⟨Nat.zero_le _, Nat.zero_le _⟩ (fun H locs h => ?_)
              refine lv_if_ne (tgt := 300) hx hb d_Md_takes_292 (by decide) (fun hc => ?_) (fun hc => ?_)
              · have hf := op_f hc hf
                refine lv_iconst (v := 0) hx hb d_Md_takes_300 (by decide) ?_
                obtain rfl := op_i1 hf
                exact K30 ls (lv_sub hl [4, 5, 6, 7] rfl) H locs h
              · have hf := op_t hc hf
                refine lv_iload hx hb d_Md_takes_295 (lv_at hl 5 rfl) ?_
                refine lv_goto (tgt := 301) hx hb d_Md_takes_297 (by decide) ?_
                obtain rfl := op_i1 hf
                exact K30 ls (lv_sub hl [4, 5, 6, 7] rfl) H locs h
          · have hf := op_f hc hf
            refine lv_iload hx hb d_Md_takes_266 (lv_at hl 6 rfl) ?_
            refine lv_bipush (v := 6) hx hb d_Md_takes_268 (by decide) ?_
            refine lv_icmp_ne (tgt := 300) hx hb d_Md_takes_270 (by decide) (fun hc => ?_) (fun hc => ?_)
            · have hf := op_f hc hf
              refine lv_iconst (v := 0) hx hb d_Md_takes_300 (by decide) ?_
              obtain rfl := op_i1 hf
              exact K30 ls (lv_sub hl [4, 5, 6, 7] rfl) H locs h
            · have hf := op_t hc hf
              refine lv_aload_n hx hb d_Md_takes_273 rfl (lv_at hl 1 rfl) ?_
              refine lv_iload_n hx hb d_Md_takes_274 rfl (lv_at hl 2 rfl) ?_
              refine lv_iconst (v := 1) hx hb d_Md_takes_275 (by decide) ?_
              refine lv_isub hx hb d_Md_takes_276 ?_
              refine lv_iload_n hx hb d_Md_takes_277 rfl (lv_at hl 3 rfl) ?_
              obtain ⟨x37, hc36, hf⟩ := op_bind hf
              refine kc_r (rest := [.int x29]) C h hA (c_Md_goes l n (v1 - 1) v2 I2 R3) hc36 (cbW 2 hT cd_Md_goes rfl rfl ini_Md ml_Md_153 hd_Md_goes ⟨Nat.le_of_ble_eq_true rfl, Nat.le_of_ble_eq_true rfl⟩) im_Md_goes sp_Md_goes rfl hl.1 rfl (Nat.le_of_ble_eq_true rfl) d_Md_takes_278 ⟨Nat.zero_le _, Nat.zero_le _⟩ (fun H locs h => ?_)
              refine lv_if_ne (tgt := 300) hx hb d_Md_takes_281 (by decide) (fun hc => ?_) (fun hc => ?_)
              · have hf := op_f hc hf
                refine lv_iconst (v := 0) hx hb d_Md_takes_300 (by decide) ?_
                obtain rfl := op_i1 hf
                exact K30 ls (lv_sub hl [4, 5, 6, 7] rfl) H locs h
              · have hf := op_t hc hf
                refine lv_aload_n hx hb d_Md_takes_284 rfl (lv_at hl 1 rfl) ?_
                refine lv_iload_n hx hb d_Md_takes_285 rfl (lv_at hl 2 rfl) ?_
                refine lv_iconst (v := 1) hx hb d_Md_takes_286 (by decide) ?_
                refine lv_iadd hx hb d_Md_takes_287 ?_
                refine lv_iload_n hx hb d_Md_takes_288 rfl (lv_at hl 3 rfl) ?_
                obtain ⟨x39, hc38, hf⟩ := op_bind hf
                refine kc_r (rest := [.int x29]) C h hA (c_Md_goes l n (v1 + 1) v2 I2 R3) hc38 (cbW 2 hT cd_Md_goes rfl rfl ini_Md ml_Md_153 hd_Md_goes ⟨Nat.le_of_ble_eq_true rfl, Nat.le_of_ble_eq_true rfl⟩) im_Md_goes sp_Md_goes rfl hl.1 rfl (Nat.le_of_ble_eq_true rfl) d_Md_takes_289 ⟨Nat.zero_le _, Nat.zero_le _⟩ (fun H locs h => ?_)
                refine lv_if_ne (tgt := 300) hx hb d_Md_takes_292 (by decide) (fun hc => ?_) (fun hc => ?_)
                · have hf := op_f hc hf
                  refine lv_iconst (v := 0) hx hb d_Md_takes_300 (by decide) ?_
                  obtain rfl := op_i1 hf
                  exact K30 ls (lv_sub hl [4, 5, 6, 7] rfl) H locs h
                · have hf := op_t hc hf
                  refine lv_iload hx hb d_Md_takes_295 (lv_at hl 5 rfl) ?_
                  refine lv_goto (tgt := 301) hx hb d_Md_takes_297 (by decide) ?_
                  obtain rfl := op_i1 hf
                  exact K30 ls (lv_sub hl [4, 5, 6, 7] rfl) H locs h
        have hf := he
        refine lv_icmp_ne (tgt := 254) hx hb d_Md_takes_237 (by decide) (fun hc => ?_) (fun hc => ?_)
        · have hf := op_f hc hf
          refine lv_iload hx hb d_Md_takes_254 (lv_at hl 0 rfl) ?_
          obtain rfl := op_i1 hf
          exact K28 ls (lv_sub hl [1, 2, 3, 4, 5, 6, 7] rfl) H locs h
        · have hf := op_t hc hf
          refine lv_iload hx hb d_Md_takes_240 (lv_at hl 8 rfl) ?_
          refine lv_if_ne (tgt := 254) hx hb d_Md_takes_242 (by decide) (fun hc => ?_) (fun hc => ?_)
          · have hf := op_f hc hf
            refine lv_iload hx hb d_Md_takes_254 (lv_at hl 0 rfl) ?_
            obtain rfl := op_i1 hf
            exact K28 ls (lv_sub hl [1, 2, 3, 4, 5, 6, 7] rfl) H locs h
          · have hf := op_t hc hf
            refine lv_iload hx hb d_Md_takes_245 (lv_at hl 0 rfl) ?_
            refine lv_iconst (v := 1) hx hb d_Md_takes_247 (by decide) ?_
            refine lv_iadd hx hb d_Md_takes_248 ?_
            refine lv_iconst (v := 2) hx hb d_Md_takes_249 (by decide) ?_
            refine lv_idiv hx hb d_Md_takes_250 (by decide) ?_
            refine lv_goto (tgt := 256) hx hb d_Md_takes_251 (by decide) ?_
            obtain rfl := op_i1 hf
            exact K28 ls (lv_sub hl [1, 2, 3, 4, 5, 6, 7] rfl) H locs h
      have hf := he
      refine lv_icmp_eq (tgt := 220) hx hb d_Md_takes_211 (by decide) (fun hc => ?_) (fun hc => ?_)
      · have hf := op_t hc hf
        refine lv_iload hx hb d_Md_takes_220 (lv_at hl 7 rfl) ?_
        refine lv_if_ne (tgt := 230) hx hb d_Md_takes_222 (by decide) (fun hc => ?_) (fun hc => ?_)
        · have hf := op_f hc hf
          refine lv_iconst (v := 0) hx hb d_Md_takes_230 (by decide) ?_
          obtain rfl := op_i1 hf
          exact K26 ls (lv_sub hl [1, 2, 3, 4, 5, 6, 8, 9] rfl) H locs h
        · have hf := op_t hc hf
          refine lv_iload hx hb d_Md_takes_225 (lv_at hl 5 rfl) ?_
          refine lv_goto (tgt := 231) hx hb d_Md_takes_227 (by decide) ?_
          obtain rfl := op_i1 hf
          exact K26 ls (lv_sub hl [1, 2, 3, 4, 5, 6, 8, 9] rfl) H locs h
      · have hf := op_f hc hf
        refine lv_iload hx hb d_Md_takes_214 (lv_at hl 6 rfl) ?_
        refine lv_iconst (v := 5) hx hb d_Md_takes_216 (by decide) ?_
        refine lv_icmp_ne (tgt := 230) hx hb d_Md_takes_217 (by decide) (fun hc => ?_) (fun hc => ?_)
        · have hf := op_f hc hf
          refine lv_iconst (v := 0) hx hb d_Md_takes_230 (by decide) ?_
          obtain rfl := op_i1 hf
          exact K26 ls (lv_sub hl [1, 2, 3, 4, 5, 6, 8, 9] rfl) H locs h
        · have hf := op_t hc hf
          refine lv_iload hx hb d_Md_takes_220 (lv_at hl 7 rfl) ?_
          refine lv_if_ne (tgt := 230) hx hb d_Md_takes_222 (by decide) (fun hc => ?_) (fun hc => ?_)
          · have hf := op_f hc hf
            refine lv_iconst (v := 0) hx hb d_Md_takes_230 (by decide) ?_
            obtain rfl := op_i1 hf
            exact K26 ls (lv_sub hl [1, 2, 3, 4, 5, 6, 8, 9] rfl) H locs h
          · have hf := op_t hc hf
            refine lv_iload hx hb d_Md_takes_225 (lv_at hl 5 rfl) ?_
            refine lv_goto (tgt := 231) hx hb d_Md_takes_227 (by decide) ?_
            obtain rfl := op_i1 hf
            exact K26 ls (lv_sub hl [1, 2, 3, 4, 5, 6, 8, 9] rfl) H locs h
    have hf := he
    refine lv_icmp_eq (tgt := 192) hx hb d_Md_takes_183 (by decide) (fun hc => ?_) (fun hc => ?_)
    · have hf := op_t hc hf
      refine lv_iload hx hb d_Md_takes_192 (lv_at hl 0 rfl) ?_
      refine lv_if_eq (tgt := 202) hx hb d_Md_takes_194 (by decide) (fun hc => ?_) (fun hc => ?_)
      · have hf := op_t hc hf
        refine lv_iconst (v := 0) hx hb d_Md_takes_202 (by decide) ?_
        obtain rfl := op_i1 hf
        exact K24 ls (lv_sub hl [1, 2, 3, 4, 5, 6, 8, 9, 0] rfl) H locs h
      · have hf := op_f hc hf
        refine lv_iload hx hb d_Md_takes_197 (lv_at hl 5 rfl) ?_
        refine lv_goto (tgt := 203) hx hb d_Md_takes_199 (by decide) ?_
        obtain rfl := op_i1 hf
        exact K24 ls (lv_sub hl [1, 2, 3, 4, 5, 6, 8, 9, 0] rfl) H locs h
    · have hf := op_f hc hf
      refine lv_iload hx hb d_Md_takes_186 (lv_at hl 6 rfl) ?_
      refine lv_iconst (v := 4) hx hb d_Md_takes_188 (by decide) ?_
      refine lv_icmp_ne (tgt := 202) hx hb d_Md_takes_189 (by decide) (fun hc => ?_) (fun hc => ?_)
      · have hf := op_f hc hf
        refine lv_iconst (v := 0) hx hb d_Md_takes_202 (by decide) ?_
        obtain rfl := op_i1 hf
        exact K24 ls (lv_sub hl [1, 2, 3, 4, 5, 6, 8, 9, 0] rfl) H locs h
      · have hf := op_t hc hf
        refine lv_iload hx hb d_Md_takes_192 (lv_at hl 0 rfl) ?_
        refine lv_if_eq (tgt := 202) hx hb d_Md_takes_194 (by decide) (fun hc => ?_) (fun hc => ?_)
        · have hf := op_t hc hf
          refine lv_iconst (v := 0) hx hb d_Md_takes_202 (by decide) ?_
          obtain rfl := op_i1 hf
          exact K24 ls (lv_sub hl [1, 2, 3, 4, 5, 6, 8, 9, 0] rfl) H locs h
        · have hf := op_f hc hf
          refine lv_iload hx hb d_Md_takes_197 (lv_at hl 5 rfl) ?_
          refine lv_goto (tgt := 203) hx hb d_Md_takes_199 (by decide) ?_
          obtain rfl := op_i1 hf
          exact K24 ls (lv_sub hl [1, 2, 3, 4, 5, 6, 8, 9, 0] rfl) H locs h
  have hf := he
  refine lv_icmp_ne (tgt := 175) hx hb d_Md_takes_168 (by decide) (fun hc => ?_) (fun hc => ?_)
  · have hf := op_f hc hf
    refine lv_iconst (v := 0) hx hb d_Md_takes_175 (by decide) ?_
    obtain rfl := op_i1 hf
    exact K22 ls (lv_sub hl [0, 1, 2, 3, 4, 5, 6, 7, 8] rfl) H locs h
  · have hf := op_t hc hf
    refine lv_iconst (v := 1) hx hb d_Md_takes_171 (by decide) ?_
    refine lv_goto (tgt := 176) hx hb d_Md_takes_172 (by decide) ?_
    obtain rfl := op_i1 hf
    exact K22 ls (lv_sub hl [0, 1, 2, 3, 4, 5, 6, 7, 8] rfl) H locs h
theorem hd_Md_plainWaits : y_Md_plainWaits.cls ≠ "java/lang/invoke/MethodHandle" ∧ y_Md_plainWaits.cls ≠ "java/lang/invoke/VarHandle" ∧ (parseMethodDescriptor y_Md_plainWaits.desc).map (fun d => d.parameters.length) = some 1 := by decide +kernel
theorem d_Md_plainWaits_0 : decode b_Md_plainWaits 0 = .ok (.aload_n 0, 1) := by decide +kernel
theorem d_Md_plainWaits_1 : decode b_Md_plainWaits 1 = .ok (.iconst 2, 1) := by decide +kernel
theorem d_Md_plainWaits_2 : decode b_Md_plainWaits 2 = .ok (.invokevirtual 247, 3) := by decide +kernel
theorem d_Md_plainWaits_5 : decode b_Md_plainWaits 5 = .ok (.aload_n 0, 1) := by decide +kernel
theorem d_Md_plainWaits_6 : decode b_Md_plainWaits 6 = .ok (.iload_n 1, 1) := by decide +kernel
theorem d_Md_plainWaits_7 : decode b_Md_plainWaits 7 = .ok (.invokevirtual 262, 3) := by decide +kernel
theorem d_Md_plainWaits_10 : decode b_Md_plainWaits 10 = .ok (.aload_n 0, 1) := by decide +kernel
theorem d_Md_plainWaits_11 : decode b_Md_plainWaits 11 = .ok (.getfield 265, 3) := by decide +kernel
theorem d_Md_plainWaits_14 : decode b_Md_plainWaits 14 = .ok (.isub, 1) := by decide +kernel
theorem d_Md_plainWaits_15 : decode b_Md_plainWaits 15 = .ok (.ireturn, 1) := by decide +kernel
def p_Md_plainWaits (n : Nat) (v1 : Int32) (I : Nat → Int32) (R : Nat → Nat → Int32) : Option (Int32 × MU) := (p_Md_ranBody n 2 I R).bind fun (I2, R3) => (p_Md_goesActs n v1 I2 R3).bind fun (x7, I5, R6) => some ((x7 - (I5 23)), I5, R6)
set_option maxHeartbeats 4000000 in
theorem c_Md_plainWaits (l : Launch) (n : Nat) (v1 : Int32) (I : Nat → Int32) (R : Nat → Nat → Int32)  : MMi l y_Md_plainWaits b_Md_plainWaits 2 .int (rL 8) (fun ad adK => [.int v1]) I R (p_Md_plainWaits n v1 I R) := by
  refine en_mi (by decide) rfl (fun _ _ => Nat.le_of_ble_eq_true rfl) ?_
  intro z hf p e s m args below meth c dC dI ad cI cZ A adK adV ls C hA h hr hlk hl
  have hl : lv_has ls 2 [(0, .ref (ad 0)), (1, .int v1)] := hl
  unfold p_Md_plainWaits at hf
  obtain ⟨hx, hb, hml, hown, hT, -⟩ := id C
  refine lv_aload_n hx hb d_Md_plainWaits_0 rfl (lv_at hl 0 rfl) ?_
  refine lv_iconst (v := 2) hx hb d_Md_plainWaits_1 (by decide) ?_
  obtain ⟨⟨I2, R3⟩, hc1, hf⟩ := op_bind hf
  try dsimp only at hf
  refine kc_v (rest := []) C h hA (c_Md_ranBody l n 2 I R) hc1 (cbW 1 hT cd_Md_ranBody rfl rfl ini_Md ml_Md_247 hd_Md_ranBody ⟨Nat.le_of_ble_eq_true rfl, Nat.le_of_ble_eq_true rfl⟩) im_Md_ranBody sp_Md_ranBody rfl hl.1 rfl (Nat.le_of_ble_eq_true rfl) d_Md_plainWaits_2 ⟨Nat.zero_le _, Nat.zero_le _⟩ (fun H locs h => ?_)
  refine lv_aload_n hx hb d_Md_plainWaits_5 rfl (lv_at hl 0 rfl) ?_
  refine lv_iload_n hx hb d_Md_plainWaits_6 rfl (lv_at hl 1 rfl) ?_
  obtain ⟨⟨x7, I5, R6⟩, hc4, hf⟩ := op_bind hf
  try dsimp only at hf
  refine kc_i (rest := []) C h hA (c_Md_goesActs l n v1 I2 R3) hc4 (cbW 1 hT cd_Md_goesActs rfl rfl ini_Md ml_Md_262 hd_Md_goesActs ⟨Nat.le_of_ble_eq_true rfl, Nat.le_of_ble_eq_true rfl⟩) im_Md_goesActs sp_Md_goesActs rfl hl.1 rfl (Nat.le_of_ble_eq_true rfl) d_Md_plainWaits_7 ⟨Nat.zero_le _, Nat.zero_le _⟩ (fun H locs h => ?_)
  refine lv_aload_n hx hb d_Md_plainWaits_10 rfl (lv_at hl 0 rfl) ?_
  refine mg_23 C h d_Md_plainWaits_11 ?_
  refine lv_isub hx hb d_Md_plainWaits_14 ?_
  exact rt_mi C h hr hlk hf rfl d_Md_plainWaits_15
theorem hd_Md_minutesOf : y_Md_minutesOf.cls ≠ "java/lang/invoke/MethodHandle" ∧ y_Md_minutesOf.cls ≠ "java/lang/invoke/VarHandle" ∧ (parseMethodDescriptor y_Md_minutesOf.desc).map (fun d => d.parameters.length) = some 2 := by decide +kernel
theorem d_Md_minutesOf_0 : decode b_Md_minutesOf 0 = .ok (.iconst 0, 1) := by decide +kernel
theorem d_Md_minutesOf_1 : decode b_Md_minutesOf 1 = .ok (.istore_n 3, 1) := by decide +kernel
theorem d_Md_minutesOf_2 : decode b_Md_minutesOf 2 = .ok (.iconst 0, 1) := by decide +kernel
theorem d_Md_minutesOf_3 : decode b_Md_minutesOf 3 = .ok (.istore 4, 2) := by decide +kernel
theorem d_Md_minutesOf_5 : decode b_Md_minutesOf 5 = .ok (.iload 4, 2) := by decide +kernel
theorem d_Md_minutesOf_7 : decode b_Md_minutesOf 7 = .ok (.aload_n 0, 1) := by decide +kernel
theorem d_Md_minutesOf_8 : decode b_Md_minutesOf 8 = .ok (.getfield 9, 3) := by decide +kernel
theorem d_Md_minutesOf_11 : decode b_Md_minutesOf 11 = .ok (.iconst 0, 1) := by decide +kernel
theorem d_Md_minutesOf_12 : decode b_Md_minutesOf 12 = .ok (.iaload, 1) := by decide +kernel
theorem d_Md_minutesOf_13 : decode b_Md_minutesOf 13 = .ok (.if_icmp .ge 46, 3) := by decide +kernel
theorem d_Md_minutesOf_16 : decode b_Md_minutesOf 16 = .ok (.iload_n 1, 1) := by decide +kernel
theorem d_Md_minutesOf_17 : decode b_Md_minutesOf 17 = .ok (.iload 4, 2) := by decide +kernel
theorem d_Md_minutesOf_19 : decode b_Md_minutesOf 19 = .ok (.ishr, 1) := by decide +kernel
theorem d_Md_minutesOf_20 : decode b_Md_minutesOf 20 = .ok (.iconst 1, 1) := by decide +kernel
theorem d_Md_minutesOf_21 : decode b_Md_minutesOf 21 = .ok (.iand, 1) := by decide +kernel
theorem d_Md_minutesOf_22 : decode b_Md_minutesOf 22 = .ok (.iconst 1, 1) := by decide +kernel
theorem d_Md_minutesOf_23 : decode b_Md_minutesOf 23 = .ok (.if_icmp .ne 14, 3) := by decide +kernel
theorem d_Md_minutesOf_26 : decode b_Md_minutesOf 26 = .ok (.aload_n 0, 1) := by decide +kernel
theorem d_Md_minutesOf_27 : decode b_Md_minutesOf 27 = .ok (.iload 4, 2) := by decide +kernel
theorem d_Md_minutesOf_29 : decode b_Md_minutesOf 29 = .ok (.iload_n 1, 1) := by decide +kernel
theorem d_Md_minutesOf_30 : decode b_Md_minutesOf 30 = .ok (.iload_n 2, 1) := by decide +kernel
theorem d_Md_minutesOf_31 : decode b_Md_minutesOf 31 = .ok (.invokevirtual 157, 3) := by decide +kernel
theorem d_Md_minutesOf_34 : decode b_Md_minutesOf 34 = .ok (.goto 4, 3) := by decide +kernel
theorem d_Md_minutesOf_37 : decode b_Md_minutesOf 37 = .ok (.iconst 0, 1) := by decide +kernel
theorem d_Md_minutesOf_38 : decode b_Md_minutesOf 38 = .ok (.istore 5, 2) := by decide +kernel
theorem d_Md_minutesOf_40 : decode b_Md_minutesOf 40 = .ok (.iload 5, 2) := by decide +kernel
theorem d_Md_minutesOf_42 : decode b_Md_minutesOf 42 = .ok (.iload_n 3, 1) := by decide +kernel
theorem d_Md_minutesOf_43 : decode b_Md_minutesOf 43 = .ok (.if_icmp .le 8, 3) := by decide +kernel
theorem d_Md_minutesOf_46 : decode b_Md_minutesOf 46 = .ok (.iload 5, 2) := by decide +kernel
theorem d_Md_minutesOf_48 : decode b_Md_minutesOf 48 = .ok (.goto 4, 3) := by decide +kernel
theorem d_Md_minutesOf_51 : decode b_Md_minutesOf 51 = .ok (.iload_n 3, 1) := by decide +kernel
theorem d_Md_minutesOf_52 : decode b_Md_minutesOf 52 = .ok (.istore_n 3, 1) := by decide +kernel
theorem d_Md_minutesOf_53 : decode b_Md_minutesOf 53 = .ok (.iinc 4 1, 3) := by decide +kernel
theorem d_Md_minutesOf_56 : decode b_Md_minutesOf 56 = .ok (.goto (-51), 3) := by decide +kernel
theorem d_Md_minutesOf_59 : decode b_Md_minutesOf 59 = .ok (.iload_n 3, 1) := by decide +kernel
theorem d_Md_minutesOf_60 : decode b_Md_minutesOf 60 = .ok (.ireturn, 1) := by decide +kernel
def l_Md_minutesOf_5 (n : Nat)  (v1 : Int32) (v2 : Int32)  : Nat → Int32 → Int32 → (Nat → Int32) → (Nat → Nat → Int32) → Option (Int32 × (Nat → Int32) × (Nat → Nat → Int32))
  | 0, _, _, _, _ => none
  | k + 1, v3, v4, I, R => (if (R 1 0) ≤ v4 then some (v3, I, R) else (if ((v1 >>> (v4 &&& 31)) &&& 1) = 1 then (p_Md_takes n v4 v1 v2 I R).bind fun (x8, I6, R7) => some (x8, I6, R7) else some (0, I, R) : Option (Int32 × (Nat → Int32) × (Nat → Nat → Int32))).bind fun (x2, I3, R4) => (if x2 ≤ v3 then some v3 else some x2 : Option (Int32)).bind fun x10 => l_Md_minutesOf_5 n v1 v2 k x10 (v4 + 1) I3 R4)
set_option maxHeartbeats 4000000 in
theorem wl_Md_minutesOf_5 {Q : State → Prop}  {p : Program} {l : Launch} {e : Env} {s : State} {m : MethodId} {args : Array Value} {below : List Frame} {meth : Method} {c : Code} {dC : Nat → ClassId} {dI : Nat → Nat → Nat} {ad : Nat → Nat} {cI cZ : ClassId} {A : Nat → Prop} {adK adV : Nat → Nat} (C : mC p s m args c b_Md_minutesOf 6 dC dI cI cZ A adK adV) (hA : ∀ q, s.heap.size ≤ q → A q) (hr : meth.sig.returnType = some .int) (hlk : meth.locks = false) (n : Nat)  (v1 : Int32) (v2 : Int32)  : ∀ (k : Nat) (v3 : Int32) (v4 : Int32) (I : Nat → Int32) (R : Nat → Nat → Int32) (r0 : Int32) (r1 : Nat → Int32) (r2 : Nat → Nat → Int32), l_Md_minutesOf_5 n v1 v2 k v3 v4 I R = some (r0, r1, r2) → (∀ (ls : Array Slot), lv_has ls 6 [(3, .int r0)] → ∀ (H : Heap) (locs : List Loc), mH A s.heap dC dI ad cI cZ r1 r2 H locs → W p l e (rL 9) s m args below meth c H locs 0 0 Q (F0 m 59 ls [])) → ∀ (ls : Array Slot), lv_has ls 6 [(0, .ref (ad 0)), (1, .int v1), (2, .int v2), (3, .int v3), (4, .int v4)] → ∀ (H : Heap) (locs : List Loc), mH A s.heap dC dI ad cI cZ I R H locs → W p l e (rL 9) s m args below meth c H locs 0 0 Q (F0 m 5 ls []) := by
  obtain ⟨hx, hb, hml, hown, hT, -⟩ := id C
  intro k
  induction k with
  | zero => intro v3 v4 I R r0 r1 r2 hf; exact absurd hf (by unfold l_Md_minutesOf_5; exact fun h9 => by cases h9)
  | succ k ih =>
    intro v3 v4 I R r0 r1 r2 hf K ls hl H locs h
    unfold l_Md_minutesOf_5 at hf
    refine lv_iload hx hb d_Md_minutesOf_5 (lv_at hl 4 rfl) ?_
    refine lv_aload_n hx hb d_Md_minutesOf_7 rfl (lv_at hl 0 rfl) ?_
    refine mg_1 C h d_Md_minutesOf_8 ?_
    refine lv_iconst (v := 0) hx hb d_Md_minutesOf_11 (by decide) ?_
    refine ma_1 C h (j := 0) (by decide) (show ix 0 890 by decide) d_Md_minutesOf_12 ?_
    refine lv_icmp_ge (tgt := 59) hx hb d_Md_minutesOf_13 (by decide) (fun hc => ?_) (fun hc => ?_)
    · have hf := op_t hc hf
      obtain ⟨rfl, rfl, rfl⟩ := op_i3 hf
      exact K ls (lv_sub hl [3] rfl) H locs h
    · have hf := op_f hc hf
      refine lv_iload_n hx hb d_Md_minutesOf_16 rfl (lv_at hl 1 rfl) ?_
      refine lv_iload hx hb d_Md_minutesOf_17 (lv_at hl 4 rfl) ?_
      refine lv_ishr hx hb d_Md_minutesOf_19 ?_
      refine lv_iconst (v := 1) hx hb d_Md_minutesOf_20 (by decide) ?_
      refine lv_iand hx hb d_Md_minutesOf_21 ?_
      refine lv_iconst (v := 1) hx hb d_Md_minutesOf_22 (by decide) ?_
      obtain ⟨⟨x2, I3, R4⟩, he, hf⟩ := op_bind hf
      try dsimp only at hf
      have K1 : ∀ (ls : Array Slot), lv_has ls 6 [(0, .ref (ad 0)), (1, .int v1), (2, .int v2), (3, .int v3), (4, .int v4)] → ∀ (H : Heap) (locs : List Loc), mH A s.heap dC dI ad cI cZ I3 R4 H locs → W p l e (rL 9) s m args below meth c H locs 0 0 Q (F0 m 38 ls [.int x2]) := by
        intro ls hl H locs h
        refine lv_istore (lv' := [(5, .int x2), (0, .ref (ad 0)), (1, .int v1), (2, .int v2), (3, .int v3), (4, .int v4)]) hx hb d_Md_minutesOf_38 hl (by decide) rfl (fun ls hl => ?_)
        refine lv_iload hx hb d_Md_minutesOf_40 (lv_at hl 0 rfl) ?_
        refine lv_iload_n hx hb d_Md_minutesOf_42 rfl (lv_at hl 4 rfl) ?_
        obtain ⟨x10, he, hf⟩ := op_bind hf
        have K9 : ∀ (ls : Array Slot), lv_has ls 6 [(0, .ref (ad 0)), (1, .int v1), (2, .int v2), (4, .int v4)] → ∀ (H : Heap) (locs : List Loc), mH A s.heap dC dI ad cI cZ I3 R4 H locs → W p l e (rL 9) s m args below meth c H locs 0 0 Q (F0 m 52 ls [.int x10]) := by
          intro ls hl H locs h
          refine lv_istore_n (lv' := [(3, .int x10), (0, .ref (ad 0)), (1, .int v1), (2, .int v2), (4, .int v4)]) hx hb d_Md_minutesOf_52 rfl hl (by decide) rfl (fun ls hl => ?_)
          refine lv_iinc (v := (v4 + 1)) (lv' := [(4, .int (v4 + 1)), (3, .int x10), (0, .ref (ad 0)), (1, .int v1), (2, .int v2)]) hx hb d_Md_minutesOf_53 hl (k := 4) rfl rfl (by decide) rfl (fun ls hl => ?_)
          refine lv_goto (tgt := 5) hx hb d_Md_minutesOf_56 (by decide) ?_
          exact ih x10 (v4 + 1) I3 R4 _ _ _ hf K ls (lv_sub hl [2, 3, 4, 1, 0] rfl) H locs h
        have hf := he
        refine lv_icmp_le (tgt := 51) hx hb d_Md_minutesOf_43 (by decide) (fun hc => ?_) (fun hc => ?_)
        · have hf := op_t hc hf
          refine lv_iload_n hx hb d_Md_minutesOf_51 rfl (lv_at hl 4 rfl) ?_
          obtain rfl := op_i1 hf
          exact K9 ls (lv_sub hl [1, 2, 3, 5] rfl) H locs h
        · have hf := op_f hc hf
          refine lv_iload hx hb d_Md_minutesOf_46 (lv_at hl 0 rfl) ?_
          refine lv_goto (tgt := 52) hx hb d_Md_minutesOf_48 (by decide) ?_
          obtain rfl := op_i1 hf
          exact K9 ls (lv_sub hl [1, 2, 3, 5] rfl) H locs h
      have hf := he
      refine lv_icmp_ne (tgt := 37) hx hb d_Md_minutesOf_23 (by decide) (fun hc => ?_) (fun hc => ?_)
      · have hf := op_f hc hf
        refine lv_iconst (v := 0) hx hb d_Md_minutesOf_37 (by decide) ?_
        obtain ⟨rfl, rfl, rfl⟩ := op_i3 hf
        exact K1 ls (lv_sub hl [0, 1, 2, 3, 4] rfl) H locs h
      · have hf := op_t hc hf
        refine lv_aload_n hx hb d_Md_minutesOf_26 rfl (lv_at hl 0 rfl) ?_
        refine lv_iload hx hb d_Md_minutesOf_27 (lv_at hl 4 rfl) ?_
        refine lv_iload_n hx hb d_Md_minutesOf_29 rfl (lv_at hl 1 rfl) ?_
        refine lv_iload_n hx hb d_Md_minutesOf_30 rfl (lv_at hl 2 rfl) ?_
        obtain ⟨⟨x8, I6, R7⟩, hc5, hf⟩ := op_bind hf
        try dsimp only at hf
        refine kc_i (rest := []) C h hA (c_Md_takes l n v4 v1 v2 I R) hc5 (cbW 3 hT cd_Md_takes rfl rfl ini_Md ml_Md_157 hd_Md_takes ⟨Nat.le_of_ble_eq_true rfl, Nat.le_of_ble_eq_true rfl⟩) im_Md_takes sp_Md_takes rfl hl.1 rfl (Nat.le_of_ble_eq_true rfl) d_Md_minutesOf_31 ⟨Nat.zero_le _, Nat.zero_le _⟩ (fun H locs h => ?_)
        refine lv_goto (tgt := 38) hx hb d_Md_minutesOf_34 (by decide) ?_
        obtain ⟨rfl, rfl, rfl⟩ := op_i3 hf
        exact K1 ls (lv_sub hl [0, 1, 2, 3, 4] rfl) H locs h
def p_Md_minutesOf (n : Nat) (v1 : Int32) (v2 : Int32) (I : Nat → Int32) (R : Nat → Nat → Int32) : Option (Int32 × MU) := (l_Md_minutesOf_5 n v1 v2 n 0 0 I R).bind fun (y11, I12, R13) => some (y11, I12, R13)
set_option maxHeartbeats 4000000 in
theorem c_Md_minutesOf (l : Launch) (n : Nat) (v1 : Int32) (v2 : Int32) (I : Nat → Int32) (R : Nat → Nat → Int32)  : MMi l y_Md_minutesOf b_Md_minutesOf 6 .int (rL 9) (fun ad adK => [.int v1, .int v2]) I R (p_Md_minutesOf n v1 v2 I R) := by
  refine en_mi (by decide) rfl (fun _ _ => Nat.le_of_ble_eq_true rfl) ?_
  intro z hf p e s m args below meth c dC dI ad cI cZ A adK adV ls C hA h hr hlk hl
  have hl : lv_has ls 6 [(0, .ref (ad 0)), (1, .int v1), (2, .int v2)] := hl
  unfold p_Md_minutesOf at hf
  obtain ⟨hx, hb, hml, hown, hT, -⟩ := id C
  refine lv_iconst (v := 0) hx hb d_Md_minutesOf_0 (by decide) ?_
  refine lv_istore_n (lv' := [(3, .int 0), (0, .ref (ad 0)), (1, .int v1), (2, .int v2)]) hx hb d_Md_minutesOf_1 rfl hl (by decide) rfl (fun ls hl => ?_)
  refine lv_iconst (v := 0) hx hb d_Md_minutesOf_2 (by decide) ?_
  refine lv_istore (lv' := [(4, .int 0), (3, .int 0), (0, .ref (ad 0)), (1, .int v1), (2, .int v2)]) hx hb d_Md_minutesOf_3 hl (by decide) rfl (fun ls hl => ?_)
  obtain ⟨⟨y11, I12, R13⟩, he, hf⟩ := op_bind hf
  try dsimp only at hf
  refine wl_Md_minutesOf_5 C hA hr hlk n v1 v2 n 0 0 I R _ _ _ he (fun ls hl H locs h => ?_) ls (lv_sub hl [2, 3, 4, 1, 0] rfl) s.heap [] h
  refine lv_iload_n hx hb d_Md_minutesOf_59 rfl (lv_at hl 0 rfl) ?_
  exact rt_mi C h hr hlk hf rfl d_Md_minutesOf_60
theorem hd_Md_waitsActs : y_Md_waitsActs.cls ≠ "java/lang/invoke/MethodHandle" ∧ y_Md_waitsActs.cls ≠ "java/lang/invoke/VarHandle" ∧ (parseMethodDescriptor y_Md_waitsActs.desc).map (fun d => d.parameters.length) = some 1 := by decide +kernel
theorem d_Md_waitsActs_0 : decode b_Md_waitsActs 0 = .ok (.aload_n 0, 1) := by decide +kernel
theorem d_Md_waitsActs_1 : decode b_Md_waitsActs 1 = .ok (.getfield 253, 3) := by decide +kernel
theorem d_Md_waitsActs_4 : decode b_Md_waitsActs 4 = .ok (.iconst 2, 1) := by decide +kernel
theorem d_Md_waitsActs_5 : decode b_Md_waitsActs 5 = .ok (.invokestatic 256, 3) := by decide +kernel
theorem d_Md_waitsActs_8 : decode b_Md_waitsActs 8 = .ok (.ifCond .eq 16, 3) := by decide +kernel
theorem d_Md_waitsActs_11 : decode b_Md_waitsActs 11 = .ok (.aload_n 0, 1) := by decide +kernel
theorem d_Md_waitsActs_12 : decode b_Md_waitsActs 12 = .ok (.bipush 21, 2) := by decide +kernel
theorem d_Md_waitsActs_14 : decode b_Md_waitsActs 14 = .ok (.invokevirtual 247, 3) := by decide +kernel
theorem d_Md_waitsActs_17 : decode b_Md_waitsActs 17 = .ok (.aload_n 0, 1) := by decide +kernel
theorem d_Md_waitsActs_18 : decode b_Md_waitsActs 18 = .ok (.iload_n 1, 1) := by decide +kernel
theorem d_Md_waitsActs_19 : decode b_Md_waitsActs 19 = .ok (.invokevirtual 268, 3) := by decide +kernel
theorem d_Md_waitsActs_22 : decode b_Md_waitsActs 22 = .ok (.ineg, 1) := by decide +kernel
theorem d_Md_waitsActs_23 : decode b_Md_waitsActs 23 = .ok (.ireturn, 1) := by decide +kernel
theorem d_Md_waitsActs_24 : decode b_Md_waitsActs 24 = .ok (.aload_n 0, 1) := by decide +kernel
theorem d_Md_waitsActs_25 : decode b_Md_waitsActs 25 = .ok (.getfield 253, 3) := by decide +kernel
theorem d_Md_waitsActs_28 : decode b_Md_waitsActs 28 = .ok (.bipush 6, 2) := by decide +kernel
theorem d_Md_waitsActs_30 : decode b_Md_waitsActs 30 = .ok (.if_icmp .ne 20, 3) := by decide +kernel
theorem d_Md_waitsActs_33 : decode b_Md_waitsActs 33 = .ok (.aload_n 0, 1) := by decide +kernel
theorem d_Md_waitsActs_34 : decode b_Md_waitsActs 34 = .ok (.bipush 61, 2) := by decide +kernel
theorem d_Md_waitsActs_36 : decode b_Md_waitsActs 36 = .ok (.invokevirtual 247, 3) := by decide +kernel
theorem d_Md_waitsActs_39 : decode b_Md_waitsActs 39 = .ok (.aload_n 0, 1) := by decide +kernel
theorem d_Md_waitsActs_40 : decode b_Md_waitsActs 40 = .ok (.iload_n 1, 1) := by decide +kernel
theorem d_Md_waitsActs_41 : decode b_Md_waitsActs 41 = .ok (.invokevirtual 268, 3) := by decide +kernel
theorem d_Md_waitsActs_44 : decode b_Md_waitsActs 44 = .ok (.aload_n 0, 1) := by decide +kernel
theorem d_Md_waitsActs_45 : decode b_Md_waitsActs 45 = .ok (.getfield 265, 3) := by decide +kernel
theorem d_Md_waitsActs_48 : decode b_Md_waitsActs 48 = .ok (.iadd, 1) := by decide +kernel
theorem d_Md_waitsActs_49 : decode b_Md_waitsActs 49 = .ok (.ireturn, 1) := by decide +kernel
theorem d_Md_waitsActs_50 : decode b_Md_waitsActs 50 = .ok (.aload_n 0, 1) := by decide +kernel
theorem d_Md_waitsActs_51 : decode b_Md_waitsActs 51 = .ok (.iload_n 1, 1) := by decide +kernel
theorem d_Md_waitsActs_52 : decode b_Md_waitsActs 52 = .ok (.invokevirtual 268, 3) := by decide +kernel
theorem d_Md_waitsActs_55 : decode b_Md_waitsActs 55 = .ok (.ireturn, 1) := by decide +kernel
def p_Md_waitsActs (n : Nat) (v1 : Int32) (I : Nat → Int32) (R : Nat → Nat → Int32) : Option (Int32 × MU) := (p_Md_isUnder n (I 21) 2).bind fun x2 => (if x2 = 0 then (if (I 21) = 6 then (p_Md_ranBody n 61 I R).bind fun (I8, R9) => (p_Md_plainWaits n v1 I8 R9).bind fun (x13, I11, R12) => some ((x13 + (I11 23)), I11, R12) else (p_Md_plainWaits n v1 I R).bind fun (x6, I4, R5) => some (x6, I4, R5)) else (p_Md_ranBody n 21 I R).bind fun (I15, R16) => (p_Md_plainWaits n v1 I15 R16).bind fun (x20, I18, R19) => some ((-x20), I18, R19))
set_option maxHeartbeats 4000000 in
theorem c_Md_waitsActs (l : Launch) (n : Nat) (v1 : Int32) (I : Nat → Int32) (R : Nat → Nat → Int32)  : MMi l y_Md_waitsActs b_Md_waitsActs 2 .int (rL 9) (fun ad adK => [.int v1]) I R (p_Md_waitsActs n v1 I R) := by
  refine en_mi (by decide) rfl (fun _ _ => Nat.le_of_ble_eq_true rfl) ?_
  intro z hf p e s m args below meth c dC dI ad cI cZ A adK adV ls C hA h hr hlk hl
  have hl : lv_has ls 2 [(0, .ref (ad 0)), (1, .int v1)] := hl
  unfold p_Md_waitsActs at hf
  obtain ⟨hx, hb, hml, hown, hT, -⟩ := id C
  refine lv_aload_n hx hb d_Md_waitsActs_0 rfl (lv_at hl 0 rfl) ?_
  refine mg_21 C h d_Md_waitsActs_1 ?_
  refine lv_iconst (v := 2) hx hb d_Md_waitsActs_4 (by decide) ?_
  obtain ⟨x2, hc1, hf⟩ := op_bind hf
  refine ks_i (rest := []) hx hb hml hown hT (c_Md_isUnder l n (I 21) 2 _ hc1) (cbW 2 hT cd_Md_isUnder rfl rfl ini_Md ml_Md_256 hd_Md_isUnder ⟨Nat.le_of_ble_eq_true rfl, Nat.le_of_ble_eq_true rfl⟩) sm_Md_isUnder rfl hl.1 rfl (Nat.le_of_ble_eq_true rfl) d_Md_waitsActs_5 ⟨Nat.zero_le _, Nat.zero_le _⟩ ?_
  refine lv_if_eq (tgt := 24) hx hb d_Md_waitsActs_8 (by decide) (fun hc => ?_) (fun hc => ?_)
  · have hf := op_t hc hf
    refine lv_aload_n hx hb d_Md_waitsActs_24 rfl (lv_at hl 0 rfl) ?_
    refine mg_21 C h d_Md_waitsActs_25 ?_
    refine lv_bipush (v := 6) hx hb d_Md_waitsActs_28 (by decide) ?_
    refine lv_icmp_ne (tgt := 50) hx hb d_Md_waitsActs_30 (by decide) (fun hc => ?_) (fun hc => ?_)
    · have hf := op_f hc hf
      refine lv_aload_n hx hb d_Md_waitsActs_50 rfl (lv_at hl 0 rfl) ?_
      refine lv_iload_n hx hb d_Md_waitsActs_51 rfl (lv_at hl 1 rfl) ?_
      obtain ⟨⟨x6, I4, R5⟩, hc3, hf⟩ := op_bind hf
      try dsimp only at hf
      refine kc_i (rest := []) C h hA (c_Md_plainWaits l n v1 I R) hc3 (cbW 1 hT cd_Md_plainWaits rfl rfl ini_Md ml_Md_268 hd_Md_plainWaits ⟨Nat.le_of_ble_eq_true rfl, Nat.le_of_ble_eq_true rfl⟩) im_Md_plainWaits sp_Md_plainWaits rfl hl.1 rfl (Nat.le_of_ble_eq_true rfl) d_Md_waitsActs_52 ⟨Nat.zero_le _, Nat.zero_le _⟩ (fun H locs h => ?_)
      exact rt_mi C h hr hlk hf rfl d_Md_waitsActs_55
    · have hf := op_t hc hf
      refine lv_aload_n hx hb d_Md_waitsActs_33 rfl (lv_at hl 0 rfl) ?_
      refine lv_bipush (v := 61) hx hb d_Md_waitsActs_34 (by decide) ?_
      obtain ⟨⟨I8, R9⟩, hc7, hf⟩ := op_bind hf
      try dsimp only at hf
      refine kc_v (rest := []) C h hA (c_Md_ranBody l n 61 I R) hc7 (cbW 1 hT cd_Md_ranBody rfl rfl ini_Md ml_Md_247 hd_Md_ranBody ⟨Nat.le_of_ble_eq_true rfl, Nat.le_of_ble_eq_true rfl⟩) im_Md_ranBody sp_Md_ranBody rfl hl.1 rfl (Nat.le_of_ble_eq_true rfl) d_Md_waitsActs_36 ⟨Nat.zero_le _, Nat.zero_le _⟩ (fun H locs h => ?_)
      refine lv_aload_n hx hb d_Md_waitsActs_39 rfl (lv_at hl 0 rfl) ?_
      refine lv_iload_n hx hb d_Md_waitsActs_40 rfl (lv_at hl 1 rfl) ?_
      obtain ⟨⟨x13, I11, R12⟩, hc10, hf⟩ := op_bind hf
      try dsimp only at hf
      refine kc_i (rest := []) C h hA (c_Md_plainWaits l n v1 I8 R9) hc10 (cbW 1 hT cd_Md_plainWaits rfl rfl ini_Md ml_Md_268 hd_Md_plainWaits ⟨Nat.le_of_ble_eq_true rfl, Nat.le_of_ble_eq_true rfl⟩) im_Md_plainWaits sp_Md_plainWaits rfl hl.1 rfl (Nat.le_of_ble_eq_true rfl) d_Md_waitsActs_41 ⟨Nat.zero_le _, Nat.zero_le _⟩ (fun H locs h => ?_)
      refine lv_aload_n hx hb d_Md_waitsActs_44 rfl (lv_at hl 0 rfl) ?_
      refine mg_23 C h d_Md_waitsActs_45 ?_
      refine lv_iadd hx hb d_Md_waitsActs_48 ?_
      exact rt_mi C h hr hlk hf rfl d_Md_waitsActs_49
  · have hf := op_f hc hf
    refine lv_aload_n hx hb d_Md_waitsActs_11 rfl (lv_at hl 0 rfl) ?_
    refine lv_bipush (v := 21) hx hb d_Md_waitsActs_12 (by decide) ?_
    obtain ⟨⟨I15, R16⟩, hc14, hf⟩ := op_bind hf
    try dsimp only at hf
    refine kc_v (rest := []) C h hA (c_Md_ranBody l n 21 I R) hc14 (cbW 1 hT cd_Md_ranBody rfl rfl ini_Md ml_Md_247 hd_Md_ranBody ⟨Nat.le_of_ble_eq_true rfl, Nat.le_of_ble_eq_true rfl⟩) im_Md_ranBody sp_Md_ranBody rfl hl.1 rfl (Nat.le_of_ble_eq_true rfl) d_Md_waitsActs_14 ⟨Nat.zero_le _, Nat.zero_le _⟩ (fun H locs h => ?_)
    refine lv_aload_n hx hb d_Md_waitsActs_17 rfl (lv_at hl 0 rfl) ?_
    refine lv_iload_n hx hb d_Md_waitsActs_18 rfl (lv_at hl 1 rfl) ?_
    obtain ⟨⟨x20, I18, R19⟩, hc17, hf⟩ := op_bind hf
    try dsimp only at hf
    refine kc_i (rest := []) C h hA (c_Md_plainWaits l n v1 I15 R16) hc17 (cbW 1 hT cd_Md_plainWaits rfl rfl ini_Md ml_Md_268 hd_Md_plainWaits ⟨Nat.le_of_ble_eq_true rfl, Nat.le_of_ble_eq_true rfl⟩) im_Md_plainWaits sp_Md_plainWaits rfl hl.1 rfl (Nat.le_of_ble_eq_true rfl) d_Md_waitsActs_19 ⟨Nat.zero_le _, Nat.zero_le _⟩ (fun H locs h => ?_)
    refine lv_ineg hx hb d_Md_waitsActs_22 ?_
    exact rt_mi C h hr hlk hf rfl d_Md_waitsActs_23
