theorem hd_Md_going : y_Md_going.cls ≠ "java/lang/invoke/MethodHandle" ∧ y_Md_going.cls ≠ "java/lang/invoke/VarHandle" ∧ (parseMethodDescriptor y_Md_going.desc).map (fun d => d.parameters.length) = some 3 := by decide +kernel
theorem d_Md_going_0 : decode b_Md_going 0 = .ok (.iload_n 2, 1) := by decide +kernel
theorem d_Md_going_1 : decode b_Md_going 1 = .ok (.iconst 0, 1) := by decide +kernel
theorem d_Md_going_2 : decode b_Md_going 2 = .ok (.iconst 1, 1) := by decide +kernel
theorem d_Md_going_3 : decode b_Md_going 3 = .ok (.invokestatic 44, 3) := by decide +kernel
theorem d_Md_going_6 : decode b_Md_going 6 = .ok (.ifCond .eq 12, 3) := by decide +kernel
theorem d_Md_going_9 : decode b_Md_going 9 = .ok (.iload_n 3, 1) := by decide +kernel
theorem d_Md_going_10 : decode b_Md_going 10 = .ok (.iconst 0, 1) := by decide +kernel
theorem d_Md_going_11 : decode b_Md_going 11 = .ok (.iconst 1, 1) := by decide +kernel
theorem d_Md_going_12 : decode b_Md_going 12 = .ok (.invokestatic 44, 3) := by decide +kernel
theorem d_Md_going_15 : decode b_Md_going 15 = .ok (.ifCond .ne 5, 3) := by decide +kernel
theorem d_Md_going_18 : decode b_Md_going 18 = .ok (.iconst (-1), 1) := by decide +kernel
theorem d_Md_going_19 : decode b_Md_going 19 = .ok (.ireturn, 1) := by decide +kernel
theorem d_Md_going_20 : decode b_Md_going 20 = .ok (.aload_n 0, 1) := by decide +kernel
theorem d_Md_going_21 : decode b_Md_going 21 = .ok (.iload_n 1, 1) := by decide +kernel
theorem d_Md_going_22 : decode b_Md_going 22 = .ok (.invokevirtual 164, 3) := by decide +kernel
theorem d_Md_going_25 : decode b_Md_going 25 = .ok (.ifCond .eq 7, 3) := by decide +kernel
theorem d_Md_going_28 : decode b_Md_going 28 = .ok (.iload_n 1, 1) := by decide +kernel
theorem d_Md_going_29 : decode b_Md_going 29 = .ok (.ifCond .ne 6, 3) := by decide +kernel
theorem d_Md_going_32 : decode b_Md_going 32 = .ok (.bipush (-2), 2) := by decide +kernel
theorem d_Md_going_34 : decode b_Md_going 34 = .ok (.ireturn, 1) := by decide +kernel
theorem d_Md_going_35 : decode b_Md_going 35 = .ok (.iload_n 3, 1) := by decide +kernel
theorem d_Md_going_36 : decode b_Md_going 36 = .ok (.iconst 1, 1) := by decide +kernel
theorem d_Md_going_37 : decode b_Md_going 37 = .ok (.if_icmp .ne 12, 3) := by decide +kernel
theorem d_Md_going_40 : decode b_Md_going 40 = .ok (.aload_n 0, 1) := by decide +kernel
theorem d_Md_going_41 : decode b_Md_going 41 = .ok (.iload_n 1, 1) := by decide +kernel
theorem d_Md_going_42 : decode b_Md_going 42 = .ok (.iload_n 2, 1) := by decide +kernel
theorem d_Md_going_43 : decode b_Md_going 43 = .ok (.invokevirtual 167, 3) := by decide +kernel
theorem d_Md_going_46 : decode b_Md_going 46 = .ok (.goto 17, 3) := by decide +kernel
theorem d_Md_going_49 : decode b_Md_going 49 = .ok (.aload_n 0, 1) := by decide +kernel
theorem d_Md_going_50 : decode b_Md_going 50 = .ok (.iload_n 1, 1) := by decide +kernel
theorem d_Md_going_51 : decode b_Md_going 51 = .ok (.iload_n 2, 1) := by decide +kernel
theorem d_Md_going_52 : decode b_Md_going 52 = .ok (.invokevirtual 170, 3) := by decide +kernel
theorem d_Md_going_55 : decode b_Md_going 55 = .ok (.ifCond .eq 7, 3) := by decide +kernel
theorem d_Md_going_58 : decode b_Md_going 58 = .ok (.iconst 1, 1) := by decide +kernel
theorem d_Md_going_59 : decode b_Md_going 59 = .ok (.goto 4, 3) := by decide +kernel
theorem d_Md_going_62 : decode b_Md_going 62 = .ok (.iconst 0, 1) := by decide +kernel
theorem d_Md_going_63 : decode b_Md_going 63 = .ok (.ireturn, 1) := by decide +kernel
def p_Md_going (n : Nat) (v1 : Int32) (v2 : Int32) (v3 : Int32) (I : Nat → Int32) (R : Nat → Nat → Int32) : Option (Int32 × MU) := (p_Md_in n v2 0 1).bind fun x2 => (if x2 = 0 then some ((-1), I, R) else (p_Md_in n v3 0 1).bind fun x4 => (if x4 = 0 then some ((-1), I, R) else (p_Md_isSet n v1 I R).bind fun x6 => (if x6 = 0 then some ((-2), I, R) else (if v1 = 0 then some ((-2), I, R) else (if v3 = 1 then (p_Md_minutesOf n v1 v2 I R).bind fun (x18, I16, R17) => some (x18, I16, R17) else (p_Md_canGo n v1 v2 I R).bind fun (x14, I12, R13) => (if x14 = 0 then some (0, I12, R13) else some (1, I12, R13)) : Option (Int32 × (Nat → Int32) × (Nat → Nat → Int32))).bind fun (x8, I9, R10) => some (x8, I9, R10)))))
set_option maxHeartbeats 4000000 in
theorem c_Md_going (l : Launch) (n : Nat) (v1 : Int32) (v2 : Int32) (v3 : Int32) (I : Nat → Int32) (R : Nat → Nat → Int32)  : MMi l y_Md_going b_Md_going 4 .int (rL 10) (fun ad adK => [.int v1, .int v2, .int v3]) I R (p_Md_going n v1 v2 v3 I R) := by
  refine en_mi (by decide) rfl (fun _ _ => Nat.le_of_ble_eq_true rfl) ?_
  intro z hf p e s m args below meth c dC dI ad cI cZ A adK adV ls C hA h hr hlk hl
  have hl : lv_has ls 4 [(0, .ref (ad 0)), (1, .int v1), (2, .int v2), (3, .int v3)] := hl
  unfold p_Md_going at hf
  obtain ⟨hx, hb, hml, hown, hT, -⟩ := id C
  refine lv_iload_n hx hb d_Md_going_0 rfl (lv_at hl 2 rfl) ?_
  refine lv_iconst (v := 0) hx hb d_Md_going_1 (by decide) ?_
  refine lv_iconst (v := 1) hx hb d_Md_going_2 (by decide) ?_
  obtain ⟨x2, hc1, hf⟩ := op_bind hf
  refine ks_i (rest := []) hx hb hml hown hT (c_Md_in l n v2 0 1 _ hc1) (cbW 3 hT cd_Md_in rfl rfl ini_Md ml_Md_44 hd_Md_in ⟨Nat.le_of_ble_eq_true rfl, Nat.le_of_ble_eq_true rfl⟩) sm_Md_in rfl hl.1 rfl (Nat.le_of_ble_eq_true rfl) d_Md_going_3 ⟨Nat.zero_le _, Nat.zero_le _⟩ ?_
  refine lv_if_eq (tgt := 18) hx hb d_Md_going_6 (by decide) (fun hc => ?_) (fun hc => ?_)
  · have hf := op_t hc hf
    refine lv_iconst (v := (-1)) hx hb d_Md_going_18 (by decide) ?_
    exact rt_mi C h hr hlk hf rfl d_Md_going_19
  · have hf := op_f hc hf
    refine lv_iload_n hx hb d_Md_going_9 rfl (lv_at hl 3 rfl) ?_
    refine lv_iconst (v := 0) hx hb d_Md_going_10 (by decide) ?_
    refine lv_iconst (v := 1) hx hb d_Md_going_11 (by decide) ?_
    obtain ⟨x4, hc3, hf⟩ := op_bind hf
    refine ks_i (rest := []) hx hb hml hown hT (c_Md_in l n v3 0 1 _ hc3) (cbW 3 hT cd_Md_in rfl rfl ini_Md ml_Md_44 hd_Md_in ⟨Nat.le_of_ble_eq_true rfl, Nat.le_of_ble_eq_true rfl⟩) sm_Md_in rfl hl.1 rfl (Nat.le_of_ble_eq_true rfl) d_Md_going_12 ⟨Nat.zero_le _, Nat.zero_le _⟩ ?_
    refine lv_if_ne (tgt := 20) hx hb d_Md_going_15 (by decide) (fun hc => ?_) (fun hc => ?_)
    · have hf := op_f hc hf
      refine lv_aload_n hx hb d_Md_going_20 rfl (lv_at hl 0 rfl) ?_
      refine lv_iload_n hx hb d_Md_going_21 rfl (lv_at hl 1 rfl) ?_
      obtain ⟨x6, hc5, hf⟩ := op_bind hf
      refine kc_r (rest := []) C h hA (c_Md_isSet l n v1 I R) hc5 (cbW 1 hT cd_Md_isSet rfl rfl ini_Md ml_Md_164 hd_Md_isSet ⟨Nat.le_of_ble_eq_true rfl, Nat.le_of_ble_eq_true rfl⟩) im_Md_isSet sp_Md_isSet rfl hl.1 rfl (Nat.le_of_ble_eq_true rfl) d_Md_going_22 ⟨Nat.zero_le _, Nat.zero_le _⟩ (fun H locs h => ?_)
      refine lv_if_eq (tgt := 32) hx hb d_Md_going_25 (by decide) (fun hc => ?_) (fun hc => ?_)
      · have hf := op_t hc hf
        refine lv_bipush (v := (-2)) hx hb d_Md_going_32 (by decide) ?_
        exact rt_mi C h hr hlk hf rfl d_Md_going_34
      · have hf := op_f hc hf
        refine lv_iload_n hx hb d_Md_going_28 rfl (lv_at hl 1 rfl) ?_
        refine lv_if_ne (tgt := 35) hx hb d_Md_going_29 (by decide) (fun hc => ?_) (fun hc => ?_)
        · have hf := op_f hc hf
          refine lv_iload_n hx hb d_Md_going_35 rfl (lv_at hl 3 rfl) ?_
          refine lv_iconst (v := 1) hx hb d_Md_going_36 (by decide) ?_
          obtain ⟨⟨x8, I9, R10⟩, he, hf⟩ := op_bind hf
          try dsimp only at hf
          have K7 : ∀ (ls : Array Slot), lv_has ls 4 [] → ∀ (H : Heap) (locs : List Loc), mH A s.heap dC dI ad cI cZ I9 R10 H locs → W p l e (rL 10) s m args below meth c H locs 0 0 (mQi dC dI ad cI cZ A below args s z) (F0 m 63 ls [.int x8]) := by
            intro ls hl H locs h
            exact rt_mi C h hr hlk hf rfl d_Md_going_63
          have hf := he
          refine lv_icmp_ne (tgt := 49) hx hb d_Md_going_37 (by decide) (fun hc => ?_) (fun hc => ?_)
          · have hf := op_f hc hf
            refine lv_aload_n hx hb d_Md_going_49 rfl (lv_at hl 0 rfl) ?_
            refine lv_iload_n hx hb d_Md_going_50 rfl (lv_at hl 1 rfl) ?_
            refine lv_iload_n hx hb d_Md_going_51 rfl (lv_at hl 2 rfl) ?_
            obtain ⟨⟨x14, I12, R13⟩, hc11, hf⟩ := op_bind hf
            try dsimp only at hf
            refine kc_i (rest := []) C h hA (c_Md_canGo l n v1 v2 I R) hc11 (cbW 2 hT cd_Md_canGo rfl rfl ini_Md ml_Md_170 hd_Md_canGo ⟨Nat.le_of_ble_eq_true rfl, Nat.le_of_ble_eq_true rfl⟩) im_Md_canGo sp_Md_canGo rfl hl.1 rfl (Nat.le_of_ble_eq_true rfl) d_Md_going_52 ⟨Nat.zero_le _, Nat.zero_le _⟩ (fun H locs h => ?_)
            refine lv_if_eq (tgt := 62) hx hb d_Md_going_55 (by decide) (fun hc => ?_) (fun hc => ?_)
            · have hf := op_t hc hf
              refine lv_iconst (v := 0) hx hb d_Md_going_62 (by decide) ?_
              obtain ⟨rfl, rfl, rfl⟩ := op_i3 hf
              exact K7 ls (lv_sub hl [] rfl) H locs h
            · have hf := op_f hc hf
              refine lv_iconst (v := 1) hx hb d_Md_going_58 (by decide) ?_
              refine lv_goto (tgt := 63) hx hb d_Md_going_59 (by decide) ?_
              obtain ⟨rfl, rfl, rfl⟩ := op_i3 hf
              exact K7 ls (lv_sub hl [] rfl) H locs h
          · have hf := op_t hc hf
            refine lv_aload_n hx hb d_Md_going_40 rfl (lv_at hl 0 rfl) ?_
            refine lv_iload_n hx hb d_Md_going_41 rfl (lv_at hl 1 rfl) ?_
            refine lv_iload_n hx hb d_Md_going_42 rfl (lv_at hl 2 rfl) ?_
            obtain ⟨⟨x18, I16, R17⟩, hc15, hf⟩ := op_bind hf
            try dsimp only at hf
            refine kc_i (rest := []) C h hA (c_Md_minutesOf l n v1 v2 I R) hc15 (cbW 2 hT cd_Md_minutesOf rfl rfl ini_Md ml_Md_167 hd_Md_minutesOf ⟨Nat.le_of_ble_eq_true rfl, Nat.le_of_ble_eq_true rfl⟩) im_Md_minutesOf sp_Md_minutesOf rfl hl.1 rfl (Nat.le_of_ble_eq_true rfl) d_Md_going_43 ⟨Nat.zero_le _, Nat.zero_le _⟩ (fun H locs h => ?_)
            refine lv_goto (tgt := 63) hx hb d_Md_going_46 (by decide) ?_
            obtain ⟨rfl, rfl, rfl⟩ := op_i3 hf
            exact K7 ls (lv_sub hl [] rfl) H locs h
        · have hf := op_t hc hf
          refine lv_bipush (v := (-2)) hx hb d_Md_going_32 (by decide) ?_
          exact rt_mi C h hr hlk hf rfl d_Md_going_34
    · have hf := op_t hc hf
      refine lv_iconst (v := (-1)) hx hb d_Md_going_18 (by decide) ?_
      exact rt_mi C h hr hlk hf rfl d_Md_going_19
theorem hd_Md_go : y_Md_go.cls ≠ "java/lang/invoke/MethodHandle" ∧ y_Md_go.cls ≠ "java/lang/invoke/VarHandle" ∧ (parseMethodDescriptor y_Md_go.desc).map (fun d => d.parameters.length) = some 1 := by decide +kernel
theorem d_Md_go_0 : decode b_Md_go 0 = .ok (.aload_n 0, 1) := by decide +kernel
theorem d_Md_go_1 : decode b_Md_go 1 = .ok (.iload_n 1, 1) := by decide +kernel
theorem d_Md_go_2 : decode b_Md_go 2 = .ok (.invokevirtual 164, 3) := by decide +kernel
theorem d_Md_go_5 : decode b_Md_go 5 = .ok (.ifCond .eq 7, 3) := by decide +kernel
theorem d_Md_go_8 : decode b_Md_go 8 = .ok (.iload_n 1, 1) := by decide +kernel
theorem d_Md_go_9 : decode b_Md_go 9 = .ok (.ifCond .ne 6, 3) := by decide +kernel
theorem d_Md_go_12 : decode b_Md_go 12 = .ok (.bipush (-2), 2) := by decide +kernel
theorem d_Md_go_14 : decode b_Md_go 14 = .ok (.ireturn, 1) := by decide +kernel
theorem d_Md_go_15 : decode b_Md_go 15 = .ok (.aload_n 0, 1) := by decide +kernel
theorem d_Md_go_16 : decode b_Md_go 16 = .ok (.getfield 9, 3) := by decide +kernel
theorem d_Md_go_19 : decode b_Md_go 19 = .ok (.bipush 8, 2) := by decide +kernel
theorem d_Md_go_21 : decode b_Md_go 21 = .ok (.iaload, 1) := by decide +kernel
theorem d_Md_go_22 : decode b_Md_go 22 = .ok (.istore_n 2, 1) := by decide +kernel
theorem d_Md_go_23 : decode b_Md_go 23 = .ok (.iload_n 1, 1) := by decide +kernel
theorem d_Md_go_24 : decode b_Md_go 24 = .ok (.aload_n 0, 1) := by decide +kernel
theorem d_Md_go_25 : decode b_Md_go 25 = .ok (.getfield 9, 3) := by decide +kernel
theorem d_Md_go_28 : decode b_Md_go 28 = .ok (.bipush 9, 2) := by decide +kernel
theorem d_Md_go_30 : decode b_Md_go 30 = .ok (.iaload, 1) := by decide +kernel
theorem d_Md_go_31 : decode b_Md_go 31 = .ok (.iload_n 2, 1) := by decide +kernel
theorem d_Md_go_32 : decode b_Md_go 32 = .ok (.invokestatic 173, 3) := by decide +kernel
theorem d_Md_go_35 : decode b_Md_go 35 = .ok (.ifCond .eq 12, 3) := by decide +kernel
theorem d_Md_go_38 : decode b_Md_go 38 = .ok (.aload_n 0, 1) := by decide +kernel
theorem d_Md_go_39 : decode b_Md_go 39 = .ok (.iload_n 1, 1) := by decide +kernel
theorem d_Md_go_40 : decode b_Md_go 40 = .ok (.iload_n 2, 1) := by decide +kernel
theorem d_Md_go_41 : decode b_Md_go 41 = .ok (.invokevirtual 170, 3) := by decide +kernel
theorem d_Md_go_44 : decode b_Md_go 44 = .ok (.ifCond .ne 6, 3) := by decide +kernel
theorem d_Md_go_47 : decode b_Md_go 47 = .ok (.bipush (-3), 2) := by decide +kernel
theorem d_Md_go_49 : decode b_Md_go 49 = .ok (.ireturn, 1) := by decide +kernel
theorem d_Md_go_50 : decode b_Md_go 50 = .ok (.aload_n 0, 1) := by decide +kernel
theorem d_Md_go_51 : decode b_Md_go 51 = .ok (.iload_n 1, 1) := by decide +kernel
theorem d_Md_go_52 : decode b_Md_go 52 = .ok (.iload_n 2, 1) := by decide +kernel
theorem d_Md_go_53 : decode b_Md_go 53 = .ok (.invokevirtual 167, 3) := by decide +kernel
theorem d_Md_go_56 : decode b_Md_go 56 = .ok (.istore_n 3, 1) := by decide +kernel
theorem d_Md_go_57 : decode b_Md_go 57 = .ok (.aload_n 0, 1) := by decide +kernel
theorem d_Md_go_58 : decode b_Md_go 58 = .ok (.iconst 2, 1) := by decide +kernel
theorem d_Md_go_59 : decode b_Md_go 59 = .ok (.invokevirtual 161, 3) := by decide +kernel
theorem d_Md_go_62 : decode b_Md_go 62 = .ok (.ifCond .le 23, 3) := by decide +kernel
theorem d_Md_go_65 : decode b_Md_go 65 = .ok (.aload_n 0, 1) := by decide +kernel
theorem d_Md_go_66 : decode b_Md_go 66 = .ok (.getfield 9, 3) := by decide +kernel
theorem d_Md_go_69 : decode b_Md_go 69 = .ok (.bipush 6, 2) := by decide +kernel
theorem d_Md_go_71 : decode b_Md_go 71 = .ok (.iaload, 1) := by decide +kernel
theorem d_Md_go_72 : decode b_Md_go 72 = .ok (.iload_n 3, 1) := by decide +kernel
theorem d_Md_go_73 : decode b_Md_go 73 = .ok (.iadd, 1) := by decide +kernel
theorem d_Md_go_74 : decode b_Md_go 74 = .ok (.aload_n 0, 1) := by decide +kernel
theorem d_Md_go_75 : decode b_Md_go 75 = .ok (.iconst 2, 1) := by decide +kernel
theorem d_Md_go_76 : decode b_Md_go 76 = .ok (.invokevirtual 161, 3) := by decide +kernel
theorem d_Md_go_79 : decode b_Md_go 79 = .ok (.if_icmp .le 6, 3) := by decide +kernel
theorem d_Md_go_82 : decode b_Md_go 82 = .ok (.bipush (-3), 2) := by decide +kernel
theorem d_Md_go_84 : decode b_Md_go 84 = .ok (.ireturn, 1) := by decide +kernel
theorem d_Md_go_85 : decode b_Md_go 85 = .ok (.aload_n 0, 1) := by decide +kernel
theorem d_Md_go_86 : decode b_Md_go 86 = .ok (.getfield 9, 3) := by decide +kernel
theorem d_Md_go_89 : decode b_Md_go 89 = .ok (.bipush 6, 2) := by decide +kernel
theorem d_Md_go_91 : decode b_Md_go 91 = .ok (.dup2, 1) := by decide +kernel
theorem d_Md_go_92 : decode b_Md_go 92 = .ok (.iaload, 1) := by decide +kernel
theorem d_Md_go_93 : decode b_Md_go 93 = .ok (.iload_n 3, 1) := by decide +kernel
theorem d_Md_go_94 : decode b_Md_go 94 = .ok (.iadd, 1) := by decide +kernel
theorem d_Md_go_95 : decode b_Md_go 95 = .ok (.iastore, 1) := by decide +kernel
theorem d_Md_go_96 : decode b_Md_go 96 = .ok (.aload_n 0, 1) := by decide +kernel
theorem d_Md_go_97 : decode b_Md_go 97 = .ok (.getfield 9, 3) := by decide +kernel
theorem d_Md_go_100 : decode b_Md_go 100 = .ok (.bipush 7, 2) := by decide +kernel
theorem d_Md_go_102 : decode b_Md_go 102 = .ok (.dup2, 1) := by decide +kernel
theorem d_Md_go_103 : decode b_Md_go 103 = .ok (.iaload, 1) := by decide +kernel
theorem d_Md_go_104 : decode b_Md_go 104 = .ok (.iconst 1, 1) := by decide +kernel
theorem d_Md_go_105 : decode b_Md_go 105 = .ok (.iadd, 1) := by decide +kernel
theorem d_Md_go_106 : decode b_Md_go 106 = .ok (.iastore, 1) := by decide +kernel
theorem d_Md_go_107 : decode b_Md_go 107 = .ok (.aload_n 0, 1) := by decide +kernel
theorem d_Md_go_108 : decode b_Md_go 108 = .ok (.getfield 9, 3) := by decide +kernel
theorem d_Md_go_111 : decode b_Md_go 111 = .ok (.bipush 9, 2) := by decide +kernel
theorem d_Md_go_113 : decode b_Md_go 113 = .ok (.dup2, 1) := by decide +kernel
theorem d_Md_go_114 : decode b_Md_go 114 = .ok (.iaload, 1) := by decide +kernel
theorem d_Md_go_115 : decode b_Md_go 115 = .ok (.iload_n 1, 1) := by decide +kernel
theorem d_Md_go_116 : decode b_Md_go 116 = .ok (.ixor, 1) := by decide +kernel
theorem d_Md_go_117 : decode b_Md_go 117 = .ok (.iastore, 1) := by decide +kernel
theorem d_Md_go_118 : decode b_Md_go 118 = .ok (.aload_n 0, 1) := by decide +kernel
theorem d_Md_go_119 : decode b_Md_go 119 = .ok (.getfield 9, 3) := by decide +kernel
theorem d_Md_go_122 : decode b_Md_go 122 = .ok (.bipush 8, 2) := by decide +kernel
theorem d_Md_go_124 : decode b_Md_go 124 = .ok (.iconst 1, 1) := by decide +kernel
theorem d_Md_go_125 : decode b_Md_go 125 = .ok (.iload_n 2, 1) := by decide +kernel
theorem d_Md_go_126 : decode b_Md_go 126 = .ok (.isub, 1) := by decide +kernel
theorem d_Md_go_127 : decode b_Md_go 127 = .ok (.iastore, 1) := by decide +kernel
theorem d_Md_go_128 : decode b_Md_go 128 = .ok (.iload_n 3, 1) := by decide +kernel
theorem d_Md_go_129 : decode b_Md_go 129 = .ok (.ireturn, 1) := by decide +kernel
def p_Md_go (n : Nat) (v1 : Int32) (I : Nat → Int32) (R : Nat → Nat → Int32) : Option (Int32 × MU) := (p_Md_isSet n v1 I R).bind fun x2 => (if x2 = 0 then some ((-2), I, R) else (if v1 = 0 then some ((-2), I, R) else (p_Md_areHere n v1 (R 1 9) (R 1 8)).bind fun x4 => (if x4 = 0 then some ((-3), I, R) else (p_Md_canGo n v1 (R 1 8) I R).bind fun (x8, I6, R7) => (if x8 = 0 then some ((-3), I6, R7) else (p_Md_minutesOf n v1 (R 1 8) I6 R7).bind fun (x12, I10, R11) => (p_Md_told n 2 I10 R11).bind fun x14 => (if x14 ≤ 0 then some (x12, I10, (upR (upR (upR (upR R11 1 6 ((R11 1 6) + x12)) 1 7 (((upR R11 1 6 ((R11 1 6) + x12)) 1 7) + 1)) 1 9 (((((upR (upR R11 1 6 ((R11 1 6) + x12)) 1 7 (((upR R11 1 6 ((R11 1 6) + x12)) 1 7) + 1))) 1 9) ^^^ v1))) 1 8 (1 - (R 1 8)))) else (p_Md_told n 2 I10 R11).bind fun x16 => (if ((R11 1 6) + x12) ≤ x16 then some (x12, I10, (upR (upR (upR (upR R11 1 6 ((R11 1 6) + x12)) 1 7 (((upR R11 1 6 ((R11 1 6) + x12)) 1 7) + 1)) 1 9 (((((upR (upR R11 1 6 ((R11 1 6) + x12)) 1 7 (((upR R11 1 6 ((R11 1 6) + x12)) 1 7) + 1))) 1 9) ^^^ v1))) 1 8 (1 - (R 1 8)))) else some ((-3), I10, R11)))))))
set_option maxHeartbeats 4000000 in
theorem c_Md_go (l : Launch) (n : Nat) (v1 : Int32) (I : Nat → Int32) (R : Nat → Nat → Int32)  : MMi l y_Md_go b_Md_go 4 .int (rL 10) (fun ad adK => [.int v1]) I R (p_Md_go n v1 I R) := by
  refine en_mi (by decide) rfl (fun _ _ => Nat.le_of_ble_eq_true rfl) ?_
  intro z hf p e s m args below meth c dC dI ad cI cZ A adK adV ls C hA h hr hlk hl
  have hl : lv_has ls 4 [(0, .ref (ad 0)), (1, .int v1)] := hl
  unfold p_Md_go at hf
  obtain ⟨hx, hb, hml, hown, hT, -⟩ := id C
  refine lv_aload_n hx hb d_Md_go_0 rfl (lv_at hl 0 rfl) ?_
  refine lv_iload_n hx hb d_Md_go_1 rfl (lv_at hl 1 rfl) ?_
  obtain ⟨x2, hc1, hf⟩ := op_bind hf
  refine kc_r (rest := []) C h hA (c_Md_isSet l n v1 I R) hc1 (cbW 1 hT cd_Md_isSet rfl rfl ini_Md ml_Md_164 hd_Md_isSet ⟨Nat.le_of_ble_eq_true rfl, Nat.le_of_ble_eq_true rfl⟩) im_Md_isSet sp_Md_isSet rfl hl.1 rfl (Nat.le_of_ble_eq_true rfl) d_Md_go_2 ⟨Nat.zero_le _, Nat.zero_le _⟩ (fun H locs h => ?_)
  refine lv_if_eq (tgt := 12) hx hb d_Md_go_5 (by decide) (fun hc => ?_) (fun hc => ?_)
  · have hf := op_t hc hf
    refine lv_bipush (v := (-2)) hx hb d_Md_go_12 (by decide) ?_
    exact rt_mi C h hr hlk hf rfl d_Md_go_14
  · have hf := op_f hc hf
    refine lv_iload_n hx hb d_Md_go_8 rfl (lv_at hl 1 rfl) ?_
    refine lv_if_ne (tgt := 15) hx hb d_Md_go_9 (by decide) (fun hc => ?_) (fun hc => ?_)
    · have hf := op_f hc hf
      refine lv_aload_n hx hb d_Md_go_15 rfl (lv_at hl 0 rfl) ?_
      refine mg_1 C h d_Md_go_16 ?_
      refine lv_bipush (v := 8) hx hb d_Md_go_19 (by decide) ?_
      refine ma_1 C h (j := 8) (by decide) (show ix 8 890 by decide) d_Md_go_21 ?_
      refine lv_istore_n (lv' := [(2, .int (R 1 8)), (0, .ref (ad 0)), (1, .int v1)]) hx hb d_Md_go_22 rfl hl (by decide) rfl (fun ls hl => ?_)
      refine lv_iload_n hx hb d_Md_go_23 rfl (lv_at hl 2 rfl) ?_
      refine lv_aload_n hx hb d_Md_go_24 rfl (lv_at hl 1 rfl) ?_
      refine mg_1 C h d_Md_go_25 ?_
      refine lv_bipush (v := 9) hx hb d_Md_go_28 (by decide) ?_
      refine ma_1 C h (j := 9) (by decide) (show ix 9 890 by decide) d_Md_go_30 ?_
      refine lv_iload_n hx hb d_Md_go_31 rfl (lv_at hl 0 rfl) ?_
      obtain ⟨x4, hc3, hf⟩ := op_bind hf
      refine ks_i (rest := []) hx hb hml hown hT (c_Md_areHere l n v1 (R 1 9) (R 1 8) _ hc3) (cbW 3 hT cd_Md_areHere rfl rfl ini_Md ml_Md_173 hd_Md_areHere ⟨Nat.le_of_ble_eq_true rfl, Nat.le_of_ble_eq_true rfl⟩) sm_Md_areHere rfl hl.1 rfl (Nat.le_of_ble_eq_true rfl) d_Md_go_32 ⟨Nat.zero_le _, Nat.zero_le _⟩ ?_
      refine lv_if_eq (tgt := 47) hx hb d_Md_go_35 (by decide) (fun hc => ?_) (fun hc => ?_)
      · have hf := op_t hc hf
        refine lv_bipush (v := (-3)) hx hb d_Md_go_47 (by decide) ?_
        exact rt_mi C h hr hlk hf rfl d_Md_go_49
      · have hf := op_f hc hf
        refine lv_aload_n hx hb d_Md_go_38 rfl (lv_at hl 1 rfl) ?_
        refine lv_iload_n hx hb d_Md_go_39 rfl (lv_at hl 2 rfl) ?_
        refine lv_iload_n hx hb d_Md_go_40 rfl (lv_at hl 0 rfl) ?_
        obtain ⟨⟨x8, I6, R7⟩, hc5, hf⟩ := op_bind hf
        try dsimp only at hf
        refine kc_i (rest := []) C h hA (c_Md_canGo l n v1 (R 1 8) I R) hc5 (cbW 2 hT cd_Md_canGo rfl rfl ini_Md ml_Md_170 hd_Md_canGo ⟨Nat.le_of_ble_eq_true rfl, Nat.le_of_ble_eq_true rfl⟩) im_Md_canGo sp_Md_canGo rfl hl.1 rfl (Nat.le_of_ble_eq_true rfl) d_Md_go_41 ⟨Nat.zero_le _, Nat.zero_le _⟩ (fun H locs h => ?_)
        refine lv_if_ne (tgt := 50) hx hb d_Md_go_44 (by decide) (fun hc => ?_) (fun hc => ?_)
        · have hf := op_f hc hf
          refine lv_aload_n hx hb d_Md_go_50 rfl (lv_at hl 1 rfl) ?_
          refine lv_iload_n hx hb d_Md_go_51 rfl (lv_at hl 2 rfl) ?_
          refine lv_iload_n hx hb d_Md_go_52 rfl (lv_at hl 0 rfl) ?_
          obtain ⟨⟨x12, I10, R11⟩, hc9, hf⟩ := op_bind hf
          try dsimp only at hf
          refine kc_i (rest := []) C h hA (c_Md_minutesOf l n v1 (R 1 8) I6 R7) hc9 (cbW 2 hT cd_Md_minutesOf rfl rfl ini_Md ml_Md_167 hd_Md_minutesOf ⟨Nat.le_of_ble_eq_true rfl, Nat.le_of_ble_eq_true rfl⟩) im_Md_minutesOf sp_Md_minutesOf rfl hl.1 rfl (Nat.le_of_ble_eq_true rfl) d_Md_go_53 ⟨Nat.zero_le _, Nat.zero_le _⟩ (fun H locs h => ?_)
          refine lv_istore_n (lv' := [(3, .int x12), (2, .int (R 1 8)), (0, .ref (ad 0)), (1, .int v1)]) hx hb d_Md_go_56 rfl hl (by decide) rfl (fun ls hl => ?_)
          refine lv_aload_n hx hb d_Md_go_57 rfl (lv_at hl 2 rfl) ?_
          refine lv_iconst (v := 2) hx hb d_Md_go_58 (by decide) ?_
          obtain ⟨x14, hc13, hf⟩ := op_bind hf
          refine kc_r (rest := []) C h hA (c_Md_told l n 2 I10 R11) hc13 (cbW 1 hT cd_Md_told rfl rfl ini_Md ml_Md_161 hd_Md_told ⟨Nat.le_of_ble_eq_true rfl, Nat.le_of_ble_eq_true rfl⟩) im_Md_told se_Md_Md_told__Md_told rfl hl.1 rfl (Nat.le_of_ble_eq_true rfl) d_Md_go_59 ⟨Nat.zero_le _, Nat.zero_le _⟩ (fun H locs h => ?_)
          refine lv_if_le (tgt := 85) hx hb d_Md_go_62 (by decide) (fun hc => ?_) (fun hc => ?_)
          · have hf := op_t hc hf
            refine lv_aload_n hx hb d_Md_go_85 rfl (lv_at hl 2 rfl) ?_
            refine mg_1 C h d_Md_go_86 ?_
            refine lv_bipush (v := 6) hx hb d_Md_go_89 (by decide) ?_
            refine lv_dup2_11 hx hb d_Md_go_91 rfl rfl ?_
            refine ma_1 C h (j := 6) (by decide) (show ix 6 890 by decide) d_Md_go_92 ?_
            refine lv_iload_n hx hb d_Md_go_93 rfl (lv_at hl 0 rfl) ?_
            refine lv_iadd hx hb d_Md_go_94 ?_
            refine ms_1 C h (j := 6) (by decide) (show ix 6 890 by decide) d_Md_go_95 (fun H locs h => ?_)
            refine lv_aload_n hx hb d_Md_go_96 rfl (lv_at hl 2 rfl) ?_
            refine mg_1 C h d_Md_go_97 ?_
            refine lv_bipush (v := 7) hx hb d_Md_go_100 (by decide) ?_
            refine lv_dup2_11 hx hb d_Md_go_102 rfl rfl ?_
            refine ma_1 C h (j := 7) (by decide) (show ix 7 890 by decide) d_Md_go_103 ?_
            refine lv_iconst (v := 1) hx hb d_Md_go_104 (by decide) ?_
            refine lv_iadd hx hb d_Md_go_105 ?_
            refine ms_1 C h (j := 7) (by decide) (show ix 7 890 by decide) d_Md_go_106 (fun H locs h => ?_)
            refine lv_aload_n hx hb d_Md_go_107 rfl (lv_at hl 2 rfl) ?_
            refine mg_1 C h d_Md_go_108 ?_
            refine lv_bipush (v := 9) hx hb d_Md_go_111 (by decide) ?_
            refine lv_dup2_11 hx hb d_Md_go_113 rfl rfl ?_
            refine ma_1 C h (j := 9) (by decide) (show ix 9 890 by decide) d_Md_go_114 ?_
            refine lv_iload_n hx hb d_Md_go_115 rfl (lv_at hl 3 rfl) ?_
            refine lv_ixor hx hb d_Md_go_116 ?_
            refine ms_1 C h (j := 9) (by decide) (show ix 9 890 by decide) d_Md_go_117 (fun H locs h => ?_)
            refine lv_aload_n hx hb d_Md_go_118 rfl (lv_at hl 2 rfl) ?_
            refine mg_1 C h d_Md_go_119 ?_
            refine lv_bipush (v := 8) hx hb d_Md_go_122 (by decide) ?_
            refine lv_iconst (v := 1) hx hb d_Md_go_124 (by decide) ?_
            refine lv_iload_n hx hb d_Md_go_125 rfl (lv_at hl 1 rfl) ?_
            refine lv_isub hx hb d_Md_go_126 ?_
            refine ms_1 C h (j := 8) (by decide) (show ix 8 890 by decide) d_Md_go_127 (fun H locs h => ?_)
            refine lv_iload_n hx hb d_Md_go_128 rfl (lv_at hl 0 rfl) ?_
            exact rt_mi C h hr hlk hf rfl d_Md_go_129
          · have hf := op_f hc hf
            refine lv_aload_n hx hb d_Md_go_65 rfl (lv_at hl 2 rfl) ?_
            refine mg_1 C h d_Md_go_66 ?_
            refine lv_bipush (v := 6) hx hb d_Md_go_69 (by decide) ?_
            refine ma_1 C h (j := 6) (by decide) (show ix 6 890 by decide) d_Md_go_71 ?_
            refine lv_iload_n hx hb d_Md_go_72 rfl (lv_at hl 0 rfl) ?_
            refine lv_iadd hx hb d_Md_go_73 ?_
            refine lv_aload_n hx hb d_Md_go_74 rfl (lv_at hl 2 rfl) ?_
            refine lv_iconst (v := 2) hx hb d_Md_go_75 (by decide) ?_
            obtain ⟨x16, hc15, hf⟩ := op_bind hf
            refine kc_r (rest := [.int ((R11 1 6) + x12)]) C h hA (c_Md_told l n 2 I10 R11) hc15 (cbW 1 hT cd_Md_told rfl rfl ini_Md ml_Md_161 hd_Md_told ⟨Nat.le_of_ble_eq_true rfl, Nat.le_of_ble_eq_true rfl⟩) im_Md_told se_Md_Md_told__Md_told rfl hl.1 rfl (Nat.le_of_ble_eq_true rfl) d_Md_go_76 ⟨Nat.zero_le _, Nat.zero_le _⟩ (fun H locs h => ?_)
            refine lv_icmp_le (tgt := 85) hx hb d_Md_go_79 (by decide) (fun hc => ?_) (fun hc => ?_)
            · have hf := op_t hc hf
              refine lv_aload_n hx hb d_Md_go_85 rfl (lv_at hl 2 rfl) ?_
              refine mg_1 C h d_Md_go_86 ?_
              refine lv_bipush (v := 6) hx hb d_Md_go_89 (by decide) ?_
              refine lv_dup2_11 hx hb d_Md_go_91 rfl rfl ?_
              refine ma_1 C h (j := 6) (by decide) (show ix 6 890 by decide) d_Md_go_92 ?_
              refine lv_iload_n hx hb d_Md_go_93 rfl (lv_at hl 0 rfl) ?_
              refine lv_iadd hx hb d_Md_go_94 ?_
              refine ms_1 C h (j := 6) (by decide) (show ix 6 890 by decide) d_Md_go_95 (fun H locs h => ?_)
              refine lv_aload_n hx hb d_Md_go_96 rfl (lv_at hl 2 rfl) ?_
              refine mg_1 C h d_Md_go_97 ?_
              refine lv_bipush (v := 7) hx hb d_Md_go_100 (by decide) ?_
              refine lv_dup2_11 hx hb d_Md_go_102 rfl rfl ?_
              refine ma_1 C h (j := 7) (by decide) (show ix 7 890 by decide) d_Md_go_103 ?_
              refine lv_iconst (v := 1) hx hb d_Md_go_104 (by decide) ?_
              refine lv_iadd hx hb d_Md_go_105 ?_
              refine ms_1 C h (j := 7) (by decide) (show ix 7 890 by decide) d_Md_go_106 (fun H locs h => ?_)
              refine lv_aload_n hx hb d_Md_go_107 rfl (lv_at hl 2 rfl) ?_
              refine mg_1 C h d_Md_go_108 ?_
              refine lv_bipush (v := 9) hx hb d_Md_go_111 (by decide) ?_
              refine lv_dup2_11 hx hb d_Md_go_113 rfl rfl ?_
              refine ma_1 C h (j := 9) (by decide) (show ix 9 890 by decide) d_Md_go_114 ?_
              refine lv_iload_n hx hb d_Md_go_115 rfl (lv_at hl 3 rfl) ?_
              refine lv_ixor hx hb d_Md_go_116 ?_
              refine ms_1 C h (j := 9) (by decide) (show ix 9 890 by decide) d_Md_go_117 (fun H locs h => ?_)
              refine lv_aload_n hx hb d_Md_go_118 rfl (lv_at hl 2 rfl) ?_
              refine mg_1 C h d_Md_go_119 ?_
              refine lv_bipush (v := 8) hx hb d_Md_go_122 (by decide) ?_
              refine lv_iconst (v := 1) hx hb d_Md_go_124 (by decide) ?_
              refine lv_iload_n hx hb d_Md_go_125 rfl (lv_at hl 1 rfl) ?_
              refine lv_isub hx hb d_Md_go_126 ?_
              refine ms_1 C h (j := 8) (by decide) (show ix 8 890 by decide) d_Md_go_127 (fun H locs h => ?_)
              refine lv_iload_n hx hb d_Md_go_128 rfl (lv_at hl 0 rfl) ?_
              exact rt_mi C h hr hlk hf rfl d_Md_go_129
            · have hf := op_f hc hf
              refine lv_bipush (v := (-3)) hx hb d_Md_go_82 (by decide) ?_
              exact rt_mi C h hr hlk hf rfl d_Md_go_84
        · have hf := op_t hc hf
          refine lv_bipush (v := (-3)) hx hb d_Md_go_47 (by decide) ?_
          exact rt_mi C h hr hlk hf rfl d_Md_go_49
    · have hf := op_t hc hf
      refine lv_bipush (v := (-2)) hx hb d_Md_go_12 (by decide) ?_
      exact rt_mi C h hr hlk hf rfl d_Md_go_14
theorem hd_Md_looksForCosts : y_Md_looksForCosts.cls ≠ "java/lang/invoke/MethodHandle" ∧ y_Md_looksForCosts.cls ≠ "java/lang/invoke/VarHandle" ∧ (parseMethodDescriptor y_Md_looksForCosts.desc).map (fun d => d.parameters.length) = some 1 := by decide +kernel
theorem d_Md_looksForCosts_0 : decode b_Md_looksForCosts 0 = .ok (.iconst 0, 1) := by decide +kernel
theorem d_Md_looksForCosts_1 : decode b_Md_looksForCosts 1 = .ok (.istore_n 2, 1) := by decide +kernel
theorem d_Md_looksForCosts_2 : decode b_Md_looksForCosts 2 = .ok (.iload_n 2, 1) := by decide +kernel
theorem d_Md_looksForCosts_3 : decode b_Md_looksForCosts 3 = .ok (.sipush 128, 3) := by decide +kernel
theorem d_Md_looksForCosts_6 : decode b_Md_looksForCosts 6 = .ok (.if_icmp .ge 84, 3) := by decide +kernel
theorem d_Md_looksForCosts_9 : decode b_Md_looksForCosts 9 = .ok (.iload_n 2, 1) := by decide +kernel
theorem d_Md_looksForCosts_10 : decode b_Md_looksForCosts 10 = .ok (.bipush 64, 2) := by decide +kernel
theorem d_Md_looksForCosts_12 : decode b_Md_looksForCosts 12 = .ok (.irem, 1) := by decide +kernel
theorem d_Md_looksForCosts_13 : decode b_Md_looksForCosts 13 = .ok (.istore_n 3, 1) := by decide +kernel
theorem d_Md_looksForCosts_14 : decode b_Md_looksForCosts 14 = .ok (.iload_n 2, 1) := by decide +kernel
theorem d_Md_looksForCosts_15 : decode b_Md_looksForCosts 15 = .ok (.bipush 64, 2) := by decide +kernel
theorem d_Md_looksForCosts_17 : decode b_Md_looksForCosts 17 = .ok (.idiv, 1) := by decide +kernel
theorem d_Md_looksForCosts_18 : decode b_Md_looksForCosts 18 = .ok (.istore 4, 2) := by decide +kernel
theorem d_Md_looksForCosts_20 : decode b_Md_looksForCosts 20 = .ok (.aload_n 0, 1) := by decide +kernel
theorem d_Md_looksForCosts_21 : decode b_Md_looksForCosts 21 = .ok (.iload_n 3, 1) := by decide +kernel
theorem d_Md_looksForCosts_22 : decode b_Md_looksForCosts 22 = .ok (.invokevirtual 164, 3) := by decide +kernel
theorem d_Md_looksForCosts_25 : decode b_Md_looksForCosts 25 = .ok (.ifCond .eq 34, 3) := by decide +kernel
theorem d_Md_looksForCosts_28 : decode b_Md_looksForCosts 28 = .ok (.iload_n 3, 1) := by decide +kernel
theorem d_Md_looksForCosts_29 : decode b_Md_looksForCosts 29 = .ok (.ifCond .le 30, 3) := by decide +kernel
theorem d_Md_looksForCosts_32 : decode b_Md_looksForCosts 32 = .ok (.iload_n 1, 1) := by decide +kernel
theorem d_Md_looksForCosts_33 : decode b_Md_looksForCosts 33 = .ok (.iconst (-1), 1) := by decide +kernel
theorem d_Md_looksForCosts_34 : decode b_Md_looksForCosts 34 = .ok (.if_icmp .eq 11, 3) := by decide +kernel
theorem d_Md_looksForCosts_37 : decode b_Md_looksForCosts 37 = .ok (.iload_n 3, 1) := by decide +kernel
theorem d_Md_looksForCosts_38 : decode b_Md_looksForCosts 38 = .ok (.iload_n 1, 1) := by decide +kernel
theorem d_Md_looksForCosts_39 : decode b_Md_looksForCosts 39 = .ok (.ishr, 1) := by decide +kernel
theorem d_Md_looksForCosts_40 : decode b_Md_looksForCosts 40 = .ok (.iconst 1, 1) := by decide +kernel
theorem d_Md_looksForCosts_41 : decode b_Md_looksForCosts 41 = .ok (.iand, 1) := by decide +kernel
theorem d_Md_looksForCosts_42 : decode b_Md_looksForCosts 42 = .ok (.ifCond .ne 17, 3) := by decide +kernel
theorem d_Md_looksForCosts_45 : decode b_Md_looksForCosts 45 = .ok (.aload_n 0, 1) := by decide +kernel
theorem d_Md_looksForCosts_46 : decode b_Md_looksForCosts 46 = .ok (.iload_n 3, 1) := by decide +kernel
theorem d_Md_looksForCosts_47 : decode b_Md_looksForCosts 47 = .ok (.iload 4, 2) := by decide +kernel
theorem d_Md_looksForCosts_49 : decode b_Md_looksForCosts 49 = .ok (.invokevirtual 170, 3) := by decide +kernel
theorem d_Md_looksForCosts_52 : decode b_Md_looksForCosts 52 = .ok (.ifCond .eq 7, 3) := by decide +kernel
theorem d_Md_looksForCosts_55 : decode b_Md_looksForCosts 55 = .ok (.iconst 1, 1) := by decide +kernel
theorem d_Md_looksForCosts_56 : decode b_Md_looksForCosts 56 = .ok (.goto 4, 3) := by decide +kernel
theorem d_Md_looksForCosts_59 : decode b_Md_looksForCosts 59 = .ok (.iconst 0, 1) := by decide +kernel
theorem d_Md_looksForCosts_60 : decode b_Md_looksForCosts 60 = .ok (.istore 5, 2) := by decide +kernel
theorem d_Md_looksForCosts_62 : decode b_Md_looksForCosts 62 = .ok (.aload_n 0, 1) := by decide +kernel
theorem d_Md_looksForCosts_63 : decode b_Md_looksForCosts 63 = .ok (.getfield 25, 3) := by decide +kernel
theorem d_Md_looksForCosts_66 : decode b_Md_looksForCosts 66 = .ok (.iload_n 2, 1) := by decide +kernel
theorem d_Md_looksForCosts_67 : decode b_Md_looksForCosts 67 = .ok (.iload 5, 2) := by decide +kernel
theorem d_Md_looksForCosts_69 : decode b_Md_looksForCosts 69 = .ok (.ifCond .eq 13, 3) := by decide +kernel
theorem d_Md_looksForCosts_72 : decode b_Md_looksForCosts 72 = .ok (.aload_n 0, 1) := by decide +kernel
theorem d_Md_looksForCosts_73 : decode b_Md_looksForCosts 73 = .ok (.iload_n 3, 1) := by decide +kernel
theorem d_Md_looksForCosts_74 : decode b_Md_looksForCosts 74 = .ok (.iload 4, 2) := by decide +kernel
theorem d_Md_looksForCosts_76 : decode b_Md_looksForCosts 76 = .ok (.invokevirtual 167, 3) := by decide +kernel
theorem d_Md_looksForCosts_79 : decode b_Md_looksForCosts 79 = .ok (.goto 4, 3) := by decide +kernel
theorem d_Md_looksForCosts_82 : decode b_Md_looksForCosts 82 = .ok (.iconst (-1), 1) := by decide +kernel
theorem d_Md_looksForCosts_83 : decode b_Md_looksForCosts 83 = .ok (.iastore, 1) := by decide +kernel
theorem d_Md_looksForCosts_84 : decode b_Md_looksForCosts 84 = .ok (.iinc 2 1, 3) := by decide +kernel
theorem d_Md_looksForCosts_87 : decode b_Md_looksForCosts 87 = .ok (.goto (-85), 3) := by decide +kernel
theorem d_Md_looksForCosts_90 : decode b_Md_looksForCosts 90 = .ok (.return_, 1) := by decide +kernel
def l_Md_looksForCosts_2 (n : Nat)  (v1 : Int32)  : Nat → Int32 → (Nat → Int32) → (Nat → Nat → Int32) → Option ((Nat → Int32) × (Nat → Nat → Int32))
  | 0, _, _, _ => none
  | k + 1, v2, I, R => (if 128 ≤ v2 then some (I, R) else (p_Md_isSet n (v2 - v2 / 64 * 64) I R).bind fun x2 => (if x2 = 0 then some (0, I, R) else (if (v2 - v2 / 64 * 64) ≤ 0 then some (0, I, R) else (if v1 = (-1) then (p_Md_canGo n (v2 - v2 / 64 * 64) (v2 / 64) I R).bind fun (x10, I8, R9) => (if x10 = 0 then some (0, I8, R9) else some (1, I8, R9)) else (if (((v2 - v2 / 64 * 64) >>> (v1 &&& 31)) &&& 1) = 0 then (p_Md_canGo n (v2 - v2 / 64 * 64) (v2 / 64) I R).bind fun (x14, I12, R13) => (if x14 = 0 then some (0, I12, R13) else some (1, I12, R13)) else some (0, I, R)))) : Option (Int32 × (Nat → Int32) × (Nat → Nat → Int32))).bind fun (x4, I5, R6) => (if x4 = 0 then some ((-1), I5, R6) else (p_Md_minutesOf n (v2 - v2 / 64 * 64) (v2 / 64) I5 R6).bind fun (x22, I20, R21) => some (x22, I20, R21) : Option (Int32 × (Nat → Int32) × (Nat → Nat → Int32))).bind fun (x16, I17, R18) => if ix v2 128 then l_Md_looksForCosts_2 n v1 k (v2 + 1) I17 (upR R18 13 v2.toNatClampNeg x16) else none)
set_option maxHeartbeats 4000000 in
theorem wl_Md_looksForCosts_2 {Q : State → Prop}  {p : Program} {l : Launch} {e : Env} {s : State} {m : MethodId} {args : Array Value} {below : List Frame} {meth : Method} {c : Code} {dC : Nat → ClassId} {dI : Nat → Nat → Nat} {ad : Nat → Nat} {cI cZ : ClassId} {A : Nat → Prop} {adK adV : Nat → Nat} (C : mC p s m args c b_Md_looksForCosts 6 dC dI cI cZ A adK adV) (hA : ∀ q, s.heap.size ≤ q → A q) (hr : meth.sig.returnType = none) (hlk : meth.locks = false) (n : Nat)  (v1 : Int32)  : ∀ (k : Nat) (v2 : Int32) (I : Nat → Int32) (R : Nat → Nat → Int32) (r0 : Nat → Int32) (r1 : Nat → Nat → Int32), l_Md_looksForCosts_2 n v1 k v2 I R = some (r0, r1) → (∀ (ls : Array Slot), lv_has ls 6 [] → ∀ (H : Heap) (locs : List Loc), mH A s.heap dC dI ad cI cZ r0 r1 H locs → W p l e (rL 10) s m args below meth c H locs 0 0 Q (F0 m 90 ls [])) → ∀ (ls : Array Slot), lv_has ls 6 [(0, .ref (ad 0)), (1, .int v1), (2, .int v2)] → ∀ (H : Heap) (locs : List Loc), mH A s.heap dC dI ad cI cZ I R H locs → W p l e (rL 10) s m args below meth c H locs 0 0 Q (F0 m 2 ls []) := by
  obtain ⟨hx, hb, hml, hown, hT, -⟩ := id C
  intro k
  induction k with
  | zero => intro v2 I R r0 r1 hf; exact absurd hf (by unfold l_Md_looksForCosts_2; exact fun h9 => by cases h9)
  | succ k ih =>
    intro v2 I R r0 r1 hf K ls hl H locs h
    unfold l_Md_looksForCosts_2 at hf
    refine lv_iload_n hx hb d_Md_looksForCosts_2 rfl (lv_at hl 2 rfl) ?_
    refine lv_sipush (v := 128) hx hb d_Md_looksForCosts_3 (by decide) ?_
    refine lv_icmp_ge (tgt := 90) hx hb d_Md_looksForCosts_6 (by decide) (fun hc => ?_) (fun hc => ?_)
    · have hf := op_t hc hf
      obtain ⟨rfl, rfl⟩ := op_i2 hf
      exact K ls (lv_sub hl [] rfl) H locs h
    · have hf := op_f hc hf
      refine lv_iload_n hx hb d_Md_looksForCosts_9 rfl (lv_at hl 2 rfl) ?_
      refine lv_bipush (v := 64) hx hb d_Md_looksForCosts_10 (by decide) ?_
      refine lv_irem hx hb d_Md_looksForCosts_12 (by decide) ?_
      refine lv_istore_n (lv' := [(3, .int (v2 - v2 / 64 * 64)), (0, .ref (ad 0)), (1, .int v1), (2, .int v2)]) hx hb d_Md_looksForCosts_13 rfl hl (by decide) rfl (fun ls hl => ?_)
      refine lv_iload_n hx hb d_Md_looksForCosts_14 rfl (lv_at hl 3 rfl) ?_
      refine lv_bipush (v := 64) hx hb d_Md_looksForCosts_15 (by decide) ?_
      refine lv_idiv hx hb d_Md_looksForCosts_17 (by decide) ?_
      refine lv_istore (lv' := [(4, .int (v2 / 64)), (3, .int (v2 - v2 / 64 * 64)), (0, .ref (ad 0)), (1, .int v1), (2, .int v2)]) hx hb d_Md_looksForCosts_18 hl (by decide) rfl (fun ls hl => ?_)
      refine lv_aload_n hx hb d_Md_looksForCosts_20 rfl (lv_at hl 2 rfl) ?_
      refine lv_iload_n hx hb d_Md_looksForCosts_21 rfl (lv_at hl 1 rfl) ?_
      obtain ⟨x2, hc1, hf⟩ := op_bind hf
      refine kc_r (rest := []) C h hA (c_Md_isSet l n (v2 - v2 / 64 * 64) I R) hc1 (cbW 1 hT cd_Md_isSet rfl rfl ini_Md ml_Md_164 hd_Md_isSet ⟨Nat.le_of_ble_eq_true rfl, Nat.le_of_ble_eq_true rfl⟩) im_Md_isSet sp_Md_isSet rfl hl.1 rfl (Nat.le_of_ble_eq_true rfl) d_Md_looksForCosts_22 ⟨Nat.zero_le _, Nat.zero_le _⟩ (fun H locs h => ?_)
      obtain ⟨⟨x4, I5, R6⟩, he, hf⟩ := op_bind hf
      try dsimp only at hf
      have K3 : ∀ (ls : Array Slot), lv_has ls 6 [(0, .ref (ad 0)), (1, .int v1), (2, .int v2), (3, .int (v2 - v2 / 64 * 64)), (4, .int (v2 / 64))] → ∀ (H : Heap) (locs : List Loc), mH A s.heap dC dI ad cI cZ I5 R6 H locs → W p l e (rL 10) s m args below meth c H locs 0 0 Q (F0 m 60 ls [.int x4]) := by
        intro ls hl H locs h
        refine lv_istore (lv' := [(5, .int x4), (0, .ref (ad 0)), (1, .int v1), (2, .int v2), (3, .int (v2 - v2 / 64 * 64)), (4, .int (v2 / 64))]) hx hb d_Md_looksForCosts_60 hl (by decide) rfl (fun ls hl => ?_)
        refine lv_aload_n hx hb d_Md_looksForCosts_62 rfl (lv_at hl 1 rfl) ?_
        refine mg_13 C h d_Md_looksForCosts_63 ?_
        refine lv_iload_n hx hb d_Md_looksForCosts_66 rfl (lv_at hl 3 rfl) ?_
        refine lv_iload hx hb d_Md_looksForCosts_67 (lv_at hl 0 rfl) ?_
        obtain ⟨⟨x16, I17, R18⟩, he, hf⟩ := op_bind hf
        try dsimp only at hf
        have K15 : ∀ (ls : Array Slot), lv_has ls 6 [(0, .ref (ad 0)), (1, .int v1), (2, .int v2)] → ∀ (H : Heap) (locs : List Loc), mH A s.heap dC dI ad cI cZ I17 R18 H locs → W p l e (rL 10) s m args below meth c H locs 0 0 Q (F0 m 83 ls [.int x16, .int v2, .ref (ad 13)]) := by
          intro ls hl H locs h
          obtain ⟨h23, hf⟩ := op_if hf
          refine ms_13 C h rfl h23 d_Md_looksForCosts_83 (fun H locs h => ?_)
          refine lv_iinc (v := (v2 + 1)) (lv' := [(2, .int (v2 + 1)), (0, .ref (ad 0)), (1, .int v1)]) hx hb d_Md_looksForCosts_84 hl (k := 2) rfl rfl (by decide) rfl (fun ls hl => ?_)
          refine lv_goto (tgt := 2) hx hb d_Md_looksForCosts_87 (by decide) ?_
          exact ih (v2 + 1) I17 (upR R18 13 v2.toNatClampNeg x16) _ _ hf K ls (lv_sub hl [1, 2, 0] rfl) H locs h
        have hf := he
        refine lv_if_eq (tgt := 82) hx hb d_Md_looksForCosts_69 (by decide) (fun hc => ?_) (fun hc => ?_)
        · have hf := op_t hc hf
          refine lv_iconst (v := (-1)) hx hb d_Md_looksForCosts_82 (by decide) ?_
          obtain ⟨rfl, rfl, rfl⟩ := op_i3 hf
          exact K15 ls (lv_sub hl [1, 2, 3] rfl) H locs h
        · have hf := op_f hc hf
          refine lv_aload_n hx hb d_Md_looksForCosts_72 rfl (lv_at hl 1 rfl) ?_
          refine lv_iload_n hx hb d_Md_looksForCosts_73 rfl (lv_at hl 4 rfl) ?_
          refine lv_iload hx hb d_Md_looksForCosts_74 (lv_at hl 5 rfl) ?_
          obtain ⟨⟨x22, I20, R21⟩, hc19, hf⟩ := op_bind hf
          try dsimp only at hf
          refine kc_i (rest := [.int v2, .ref (ad 13)]) C h hA (c_Md_minutesOf l n (v2 - v2 / 64 * 64) (v2 / 64) I5 R6) hc19 (cbW 2 hT cd_Md_minutesOf rfl rfl ini_Md ml_Md_167 hd_Md_minutesOf ⟨Nat.le_of_ble_eq_true rfl, Nat.le_of_ble_eq_true rfl⟩) im_Md_minutesOf sp_Md_minutesOf rfl hl.1 rfl (Nat.le_of_ble_eq_true rfl) d_Md_looksForCosts_76 ⟨Nat.zero_le _, Nat.zero_le _⟩ (fun H locs h => ?_)
          refine lv_goto (tgt := 83) hx hb d_Md_looksForCosts_79 (by decide) ?_
          obtain ⟨rfl, rfl, rfl⟩ := op_i3 hf
          exact K15 ls (lv_sub hl [1, 2, 3] rfl) H locs h
      have hf := he
      refine lv_if_eq (tgt := 59) hx hb d_Md_looksForCosts_25 (by decide) (fun hc => ?_) (fun hc => ?_)
      · have hf := op_t hc hf
        refine lv_iconst (v := 0) hx hb d_Md_looksForCosts_59 (by decide) ?_
        obtain ⟨rfl, rfl, rfl⟩ := op_i3 hf
        exact K3 ls (lv_sub hl [2, 3, 4, 1, 0] rfl) H locs h
      · have hf := op_f hc hf
        refine lv_iload_n hx hb d_Md_looksForCosts_28 rfl (lv_at hl 1 rfl) ?_
        refine lv_if_le (tgt := 59) hx hb d_Md_looksForCosts_29 (by decide) (fun hc => ?_) (fun hc => ?_)
        · have hf := op_t hc hf
          refine lv_iconst (v := 0) hx hb d_Md_looksForCosts_59 (by decide) ?_
          obtain ⟨rfl, rfl, rfl⟩ := op_i3 hf
          exact K3 ls (lv_sub hl [2, 3, 4, 1, 0] rfl) H locs h
        · have hf := op_f hc hf
          refine lv_iload_n hx hb d_Md_looksForCosts_32 rfl (lv_at hl 3 rfl) ?_
          refine lv_iconst (v := (-1)) hx hb d_Md_looksForCosts_33 (by decide) ?_
          refine lv_icmp_eq (tgt := 45) hx hb d_Md_looksForCosts_34 (by decide) (fun hc => ?_) (fun hc => ?_)
          · have hf := op_t hc hf
            refine lv_aload_n hx hb d_Md_looksForCosts_45 rfl (lv_at hl 2 rfl) ?_
            refine lv_iload_n hx hb d_Md_looksForCosts_46 rfl (lv_at hl 1 rfl) ?_
            refine lv_iload hx hb d_Md_looksForCosts_47 (lv_at hl 0 rfl) ?_
            obtain ⟨⟨x10, I8, R9⟩, hc7, hf⟩ := op_bind hf
            try dsimp only at hf
            refine kc_i (rest := []) C h hA (c_Md_canGo l n (v2 - v2 / 64 * 64) (v2 / 64) I R) hc7 (cbW 2 hT cd_Md_canGo rfl rfl ini_Md ml_Md_170 hd_Md_canGo ⟨Nat.le_of_ble_eq_true rfl, Nat.le_of_ble_eq_true rfl⟩) im_Md_canGo sp_Md_canGo rfl hl.1 rfl (Nat.le_of_ble_eq_true rfl) d_Md_looksForCosts_49 ⟨Nat.zero_le _, Nat.zero_le _⟩ (fun H locs h => ?_)
            refine lv_if_eq (tgt := 59) hx hb d_Md_looksForCosts_52 (by decide) (fun hc => ?_) (fun hc => ?_)
            · have hf := op_t hc hf
              refine lv_iconst (v := 0) hx hb d_Md_looksForCosts_59 (by decide) ?_
              obtain ⟨rfl, rfl, rfl⟩ := op_i3 hf
              exact K3 ls (lv_sub hl [2, 3, 4, 1, 0] rfl) H locs h
            · have hf := op_f hc hf
              refine lv_iconst (v := 1) hx hb d_Md_looksForCosts_55 (by decide) ?_
              refine lv_goto (tgt := 60) hx hb d_Md_looksForCosts_56 (by decide) ?_
              obtain ⟨rfl, rfl, rfl⟩ := op_i3 hf
              exact K3 ls (lv_sub hl [2, 3, 4, 1, 0] rfl) H locs h
          · have hf := op_f hc hf
            refine lv_iload_n hx hb d_Md_looksForCosts_37 rfl (lv_at hl 1 rfl) ?_
            refine lv_iload_n hx hb d_Md_looksForCosts_38 rfl (lv_at hl 3 rfl) ?_
            refine lv_ishr hx hb d_Md_looksForCosts_39 ?_
            refine lv_iconst (v := 1) hx hb d_Md_looksForCosts_40 (by decide) ?_
            refine lv_iand hx hb d_Md_looksForCosts_41 ?_
            refine lv_if_ne (tgt := 59) hx hb d_Md_looksForCosts_42 (by decide) (fun hc => ?_) (fun hc => ?_)
            · have hf := op_f hc hf
              refine lv_iconst (v := 0) hx hb d_Md_looksForCosts_59 (by decide) ?_
              obtain ⟨rfl, rfl, rfl⟩ := op_i3 hf
              exact K3 ls (lv_sub hl [2, 3, 4, 1, 0] rfl) H locs h
            · have hf := op_t hc hf
              refine lv_aload_n hx hb d_Md_looksForCosts_45 rfl (lv_at hl 2 rfl) ?_
              refine lv_iload_n hx hb d_Md_looksForCosts_46 rfl (lv_at hl 1 rfl) ?_
              refine lv_iload hx hb d_Md_looksForCosts_47 (lv_at hl 0 rfl) ?_
              obtain ⟨⟨x14, I12, R13⟩, hc11, hf⟩ := op_bind hf
              try dsimp only at hf
              refine kc_i (rest := []) C h hA (c_Md_canGo l n (v2 - v2 / 64 * 64) (v2 / 64) I R) hc11 (cbW 2 hT cd_Md_canGo rfl rfl ini_Md ml_Md_170 hd_Md_canGo ⟨Nat.le_of_ble_eq_true rfl, Nat.le_of_ble_eq_true rfl⟩) im_Md_canGo sp_Md_canGo rfl hl.1 rfl (Nat.le_of_ble_eq_true rfl) d_Md_looksForCosts_49 ⟨Nat.zero_le _, Nat.zero_le _⟩ (fun H locs h => ?_)
              refine lv_if_eq (tgt := 59) hx hb d_Md_looksForCosts_52 (by decide) (fun hc => ?_) (fun hc => ?_)
              · have hf := op_t hc hf
                refine lv_iconst (v := 0) hx hb d_Md_looksForCosts_59 (by decide) ?_
                obtain ⟨rfl, rfl, rfl⟩ := op_i3 hf
                exact K3 ls (lv_sub hl [2, 3, 4, 1, 0] rfl) H locs h
              · have hf := op_f hc hf
                refine lv_iconst (v := 1) hx hb d_Md_looksForCosts_55 (by decide) ?_
                refine lv_goto (tgt := 60) hx hb d_Md_looksForCosts_56 (by decide) ?_
                obtain ⟨rfl, rfl, rfl⟩ := op_i3 hf
                exact K3 ls (lv_sub hl [2, 3, 4, 1, 0] rfl) H locs h
def p_Md_looksForCosts (n : Nat) (v1 : Int32) (I : Nat → Int32) (R : Nat → Nat → Int32) : Option (MU) := (l_Md_looksForCosts_2 n v1 n 0 I R).bind fun (I24, R25) => some (I24, R25)
set_option maxHeartbeats 4000000 in
theorem c_Md_looksForCosts (l : Launch) (n : Nat) (v1 : Int32) (I : Nat → Int32) (R : Nat → Nat → Int32)  : MMv l y_Md_looksForCosts b_Md_looksForCosts 6 (rL 10) (fun ad adK => [.int v1]) I R (p_Md_looksForCosts n v1 I R) := by
  refine en_mv (by decide) rfl (fun _ _ => Nat.le_of_ble_eq_true rfl) ?_
  intro z hf p e s m args below meth c dC dI ad cI cZ A adK adV ls C hA h hr hlk hl
  have hl : lv_has ls 6 [(0, .ref (ad 0)), (1, .int v1)] := hl
  unfold p_Md_looksForCosts at hf
  obtain ⟨hx, hb, hml, hown, hT, -⟩ := id C
  refine lv_iconst (v := 0) hx hb d_Md_looksForCosts_0 (by decide) ?_
  refine lv_istore_n (lv' := [(2, .int 0), (0, .ref (ad 0)), (1, .int v1)]) hx hb d_Md_looksForCosts_1 rfl hl (by decide) rfl (fun ls hl => ?_)
  obtain ⟨⟨I24, R25⟩, he, hf⟩ := op_bind hf
  try dsimp only at hf
  refine wl_Md_looksForCosts_2 C hA hr hlk n v1 n 0 I R _ _ he (fun ls hl H locs h => ?_) ls (lv_sub hl [1, 2, 0] rfl) s.heap [] h
  exact rt_mv C h hr hlk hf d_Md_looksForCosts_90
theorem hd_Md_goesByRule : y_Md_goesByRule.cls ≠ "java/lang/invoke/MethodHandle" ∧ y_Md_goesByRule.cls ≠ "java/lang/invoke/VarHandle" ∧ (parseMethodDescriptor y_Md_goesByRule.desc).map (fun d => d.parameters.length) = some 1 := by decide +kernel
theorem d_Md_goesByRule_0 : decode b_Md_goesByRule 0 = .ok (.aload_n 0, 1) := by decide +kernel
theorem d_Md_goesByRule_1 : decode b_Md_goesByRule 1 = .ok (.getfield 9, 3) := by decide +kernel
theorem d_Md_goesByRule_4 : decode b_Md_goesByRule 4 = .ok (.bipush 9, 2) := by decide +kernel
theorem d_Md_goesByRule_6 : decode b_Md_goesByRule 6 = .ok (.iaload, 1) := by decide +kernel
theorem d_Md_goesByRule_7 : decode b_Md_goesByRule 7 = .ok (.istore_n 2, 1) := by decide +kernel
theorem d_Md_goesByRule_8 : decode b_Md_goesByRule 8 = .ok (.aload_n 0, 1) := by decide +kernel
theorem d_Md_goesByRule_9 : decode b_Md_goesByRule 9 = .ok (.getfield 9, 3) := by decide +kernel
theorem d_Md_goesByRule_12 : decode b_Md_goesByRule 12 = .ok (.bipush 8, 2) := by decide +kernel
theorem d_Md_goesByRule_14 : decode b_Md_goesByRule 14 = .ok (.iaload, 1) := by decide +kernel
theorem d_Md_goesByRule_15 : decode b_Md_goesByRule 15 = .ok (.istore_n 3, 1) := by decide +kernel
theorem d_Md_goesByRule_16 : decode b_Md_goesByRule 16 = .ok (.aload_n 0, 1) := by decide +kernel
theorem d_Md_goesByRule_17 : decode b_Md_goesByRule 17 = .ok (.iconst 0, 1) := by decide +kernel
theorem d_Md_goesByRule_18 : decode b_Md_goesByRule 18 = .ok (.putfield 215, 3) := by decide +kernel
theorem d_Md_goesByRule_21 : decode b_Md_goesByRule 21 = .ok (.aload_n 0, 1) := by decide +kernel
theorem d_Md_goesByRule_22 : decode b_Md_goesByRule 22 = .ok (.iconst 0, 1) := by decide +kernel
theorem d_Md_goesByRule_23 : decode b_Md_goesByRule 23 = .ok (.putfield 218, 3) := by decide +kernel
theorem d_Md_goesByRule_26 : decode b_Md_goesByRule 26 = .ok (.iload_n 2, 1) := by decide +kernel
theorem d_Md_goesByRule_27 : decode b_Md_goesByRule 27 = .ok (.aload_n 0, 1) := by decide +kernel
theorem d_Md_goesByRule_28 : decode b_Md_goesByRule 28 = .ok (.invokevirtual 48, 3) := by decide +kernel
theorem d_Md_goesByRule_31 : decode b_Md_goesByRule 31 = .ok (.if_icmp .eq 96, 3) := by decide +kernel
theorem d_Md_goesByRule_34 : decode b_Md_goesByRule 34 = .ok (.iload_n 3, 1) := by decide +kernel
theorem d_Md_goesByRule_35 : decode b_Md_goesByRule 35 = .ok (.iconst 1, 1) := by decide +kernel
theorem d_Md_goesByRule_36 : decode b_Md_goesByRule 36 = .ok (.if_icmp .ne 12, 3) := by decide +kernel
theorem d_Md_goesByRule_39 : decode b_Md_goesByRule 39 = .ok (.aload_n 0, 1) := by decide +kernel
theorem d_Md_goesByRule_40 : decode b_Md_goesByRule 40 = .ok (.iload_n 2, 1) := by decide +kernel
theorem d_Md_goesByRule_41 : decode b_Md_goesByRule 41 = .ok (.iconst 1, 1) := by decide +kernel
theorem d_Md_goesByRule_42 : decode b_Md_goesByRule 42 = .ok (.invokevirtual 211, 3) := by decide +kernel
theorem d_Md_goesByRule_45 : decode b_Md_goesByRule 45 = .ok (.goto 16, 3) := by decide +kernel
theorem d_Md_goesByRule_48 : decode b_Md_goesByRule 48 = .ok (.aload_n 0, 1) := by decide +kernel
theorem d_Md_goesByRule_49 : decode b_Md_goesByRule 49 = .ok (.iload_n 1, 1) := by decide +kernel
theorem d_Md_goesByRule_50 : decode b_Md_goesByRule 50 = .ok (.aload_n 0, 1) := by decide +kernel
theorem d_Md_goesByRule_51 : decode b_Md_goesByRule 51 = .ok (.invokevirtual 48, 3) := by decide +kernel
theorem d_Md_goesByRule_54 : decode b_Md_goesByRule 54 = .ok (.iload_n 2, 1) := by decide +kernel
theorem d_Md_goesByRule_55 : decode b_Md_goesByRule 55 = .ok (.iconst (-1), 1) := by decide +kernel
theorem d_Md_goesByRule_56 : decode b_Md_goesByRule 56 = .ok (.ixor, 1) := by decide +kernel
theorem d_Md_goesByRule_57 : decode b_Md_goesByRule 57 = .ok (.iand, 1) := by decide +kernel
theorem d_Md_goesByRule_58 : decode b_Md_goesByRule 58 = .ok (.invokevirtual 221, 3) := by decide +kernel
theorem d_Md_goesByRule_61 : decode b_Md_goesByRule 61 = .ok (.istore 4, 2) := by decide +kernel
theorem d_Md_goesByRule_63 : decode b_Md_goesByRule 63 = .ok (.iload 4, 2) := by decide +kernel
theorem d_Md_goesByRule_65 : decode b_Md_goesByRule 65 = .ok (.ifCond .eq 22, 3) := by decide +kernel
theorem d_Md_goesByRule_68 : decode b_Md_goesByRule 68 = .ok (.aload_n 0, 1) := by decide +kernel
theorem d_Md_goesByRule_69 : decode b_Md_goesByRule 69 = .ok (.iload 4, 2) := by decide +kernel
theorem d_Md_goesByRule_71 : decode b_Md_goesByRule 71 = .ok (.iload_n 3, 1) := by decide +kernel
theorem d_Md_goesByRule_72 : decode b_Md_goesByRule 72 = .ok (.invokevirtual 170, 3) := by decide +kernel
theorem d_Md_goesByRule_75 : decode b_Md_goesByRule 75 = .ok (.ifCond .eq 12, 3) := by decide +kernel
theorem d_Md_goesByRule_78 : decode b_Md_goesByRule 78 = .ok (.aload_n 0, 1) := by decide +kernel
theorem d_Md_goesByRule_79 : decode b_Md_goesByRule 79 = .ok (.getfield 218, 3) := by decide +kernel
theorem d_Md_goesByRule_82 : decode b_Md_goesByRule 82 = .ok (.bipush 40, 2) := by decide +kernel
theorem d_Md_goesByRule_84 : decode b_Md_goesByRule 84 = .ok (.if_icmp .ne 5, 3) := by decide +kernel
theorem d_Md_goesByRule_87 : decode b_Md_goesByRule 87 = .ok (.iconst 0, 1) := by decide +kernel
theorem d_Md_goesByRule_88 : decode b_Md_goesByRule 88 = .ok (.ireturn, 1) := by decide +kernel
theorem d_Md_goesByRule_89 : decode b_Md_goesByRule 89 = .ok (.aload_n 0, 1) := by decide +kernel
theorem d_Md_goesByRule_90 : decode b_Md_goesByRule 90 = .ok (.dup, 1) := by decide +kernel
theorem d_Md_goesByRule_91 : decode b_Md_goesByRule 91 = .ok (.getfield 215, 3) := by decide +kernel
theorem d_Md_goesByRule_94 : decode b_Md_goesByRule 94 = .ok (.aload_n 0, 1) := by decide +kernel
theorem d_Md_goesByRule_95 : decode b_Md_goesByRule 95 = .ok (.iload 4, 2) := by decide +kernel
theorem d_Md_goesByRule_97 : decode b_Md_goesByRule 97 = .ok (.iload_n 3, 1) := by decide +kernel
theorem d_Md_goesByRule_98 : decode b_Md_goesByRule 98 = .ok (.invokevirtual 167, 3) := by decide +kernel
theorem d_Md_goesByRule_101 : decode b_Md_goesByRule 101 = .ok (.iadd, 1) := by decide +kernel
theorem d_Md_goesByRule_102 : decode b_Md_goesByRule 102 = .ok (.putfield 215, 3) := by decide +kernel
theorem d_Md_goesByRule_105 : decode b_Md_goesByRule 105 = .ok (.aload_n 0, 1) := by decide +kernel
theorem d_Md_goesByRule_106 : decode b_Md_goesByRule 106 = .ok (.dup, 1) := by decide +kernel
theorem d_Md_goesByRule_107 : decode b_Md_goesByRule 107 = .ok (.getfield 218, 3) := by decide +kernel
theorem d_Md_goesByRule_110 : decode b_Md_goesByRule 110 = .ok (.iconst 1, 1) := by decide +kernel
theorem d_Md_goesByRule_111 : decode b_Md_goesByRule 111 = .ok (.iadd, 1) := by decide +kernel
theorem d_Md_goesByRule_112 : decode b_Md_goesByRule 112 = .ok (.putfield 218, 3) := by decide +kernel
theorem d_Md_goesByRule_115 : decode b_Md_goesByRule 115 = .ok (.iload_n 2, 1) := by decide +kernel
theorem d_Md_goesByRule_116 : decode b_Md_goesByRule 116 = .ok (.iload 4, 2) := by decide +kernel
theorem d_Md_goesByRule_118 : decode b_Md_goesByRule 118 = .ok (.ixor, 1) := by decide +kernel
theorem d_Md_goesByRule_119 : decode b_Md_goesByRule 119 = .ok (.istore_n 2, 1) := by decide +kernel
theorem d_Md_goesByRule_120 : decode b_Md_goesByRule 120 = .ok (.iconst 1, 1) := by decide +kernel
theorem d_Md_goesByRule_121 : decode b_Md_goesByRule 121 = .ok (.iload_n 3, 1) := by decide +kernel
theorem d_Md_goesByRule_122 : decode b_Md_goesByRule 122 = .ok (.isub, 1) := by decide +kernel
theorem d_Md_goesByRule_123 : decode b_Md_goesByRule 123 = .ok (.istore_n 3, 1) := by decide +kernel
theorem d_Md_goesByRule_124 : decode b_Md_goesByRule 124 = .ok (.goto (-98), 3) := by decide +kernel
theorem d_Md_goesByRule_127 : decode b_Md_goesByRule 127 = .ok (.iconst 1, 1) := by decide +kernel
theorem d_Md_goesByRule_128 : decode b_Md_goesByRule 128 = .ok (.ireturn, 1) := by decide +kernel
def l_Md_goesByRule_26 (n : Nat)  (v1 : Int32)  : Nat → Int32 → Int32 → (Nat → Int32) → (Nat → Nat → Int32) → Option (Int32 × MU)
  | 0, _, _, _, _ => none
  | k + 1, v2, v3, I, R => (p_Md_all n I R).bind fun x2 => (if v2 = x2 then some (1, I, R) else (if v3 = 1 then (p_Md_endOf n v2 1 I R).bind fun x10 => some x10 else (p_Md_all n I R).bind fun x6 => (p_Md_goesBy n v1 (x6 &&& (v2 ^^^ (-1))) I R).bind fun x8 => some x8 : Option (Int32)).bind fun x4 => (if x4 = 0 then some (0, I, R) else (p_Md_canGo n x4 v3 I R).bind fun (x14, I12, R13) => (if x14 = 0 then some (0, I12, R13) else (if (I12 18) = 40 then some (0, I12, R13) else (p_Md_minutesOf n x4 v3 I12 R13).bind fun (x18, I16, R17) => l_Md_goesByRule_26 n v1 k (v2 ^^^ x4) (1 - v3) ((upd (upd I16 17 ((I12 17) + x18)) 18 (((upd I16 17 ((I12 17) + x18)) 18) + 1))) R17))))
set_option maxHeartbeats 4000000 in
theorem wl_Md_goesByRule_26  {p : Program} {l : Launch} {e : Env} {s : State} {m : MethodId} {args : Array Value} {below : List Frame} {meth : Method} {c : Code} {dC : Nat → ClassId} {dI : Nat → Nat → Nat} {ad : Nat → Nat} {cI cZ : ClassId} {A : Nat → Prop} {adK adV : Nat → Nat} (C : mC p s m args c b_Md_goesByRule 5 dC dI cI cZ A adK adV) (hA : ∀ q, s.heap.size ≤ q → A q) (hr : meth.sig.returnType = some .boolean) (hlk : meth.locks = false) (n : Nat)  (v1 : Int32)  : ∀ (k : Nat) (v2 : Int32) (v3 : Int32) (I : Nat → Int32) (R : Nat → Nat → Int32) (z : Int32 × MU), l_Md_goesByRule_26 n v1 k v2 v3 I R = some z → ∀ (ls : Array Slot), lv_has ls 5 [(0, .ref (ad 0)), (1, .int v1), (2, .int v2), (3, .int v3)] → ∀ (H : Heap) (locs : List Loc), mH A s.heap dC dI ad cI cZ I R H locs → W p l e (rL 10) s m args below meth c H locs 0 0 (mQi dC dI ad cI cZ A below args s z) (F0 m 26 ls []) := by
  obtain ⟨hx, hb, hml, hown, hT, -⟩ := id C
  intro k
  induction k with
  | zero => intro v2 v3 I R z hf; exact absurd hf (by unfold l_Md_goesByRule_26; exact fun h9 => by cases h9)
  | succ k ih =>
    intro v2 v3 I R z hf ls hl H locs h
    unfold l_Md_goesByRule_26 at hf
    refine lv_iload_n hx hb d_Md_goesByRule_26 rfl (lv_at hl 2 rfl) ?_
    refine lv_aload_n hx hb d_Md_goesByRule_27 rfl (lv_at hl 0 rfl) ?_
    obtain ⟨x2, hc1, hf⟩ := op_bind hf
    refine kc_r (rest := [.int v2]) C h hA (c_Md_all l n I R) hc1 (cbW 0 hT cd_Md_all rfl rfl ini_Md ml_Md_48 hd_Md_all ⟨Nat.le_of_ble_eq_true rfl, Nat.le_of_ble_eq_true rfl⟩) im_Md_all sp_Md_all rfl hl.1 rfl (Nat.le_of_ble_eq_true rfl) d_Md_goesByRule_28 ⟨Nat.zero_le _, Nat.zero_le _⟩ (fun H locs h => ?_)
    refine lv_icmp_eq (tgt := 127) hx hb d_Md_goesByRule_31 (by decide) (fun hc => ?_) (fun hc => ?_)
    · have hf := op_t hc hf
      refine lv_iconst (v := 1) hx hb d_Md_goesByRule_127 (by decide) ?_
      exact rt_mi C h hr hlk hf (by decide) d_Md_goesByRule_128
    · have hf := op_f hc hf
      refine lv_iload_n hx hb d_Md_goesByRule_34 rfl (lv_at hl 3 rfl) ?_
      refine lv_iconst (v := 1) hx hb d_Md_goesByRule_35 (by decide) ?_
      obtain ⟨x4, he, hf⟩ := op_bind hf
      have K3 : ∀ (ls : Array Slot), lv_has ls 5 [(0, .ref (ad 0)), (1, .int v1), (2, .int v2), (3, .int v3)] → ∀ (H : Heap) (locs : List Loc), mH A s.heap dC dI ad cI cZ I R H locs → W p l e (rL 10) s m args below meth c H locs 0 0 (mQi dC dI ad cI cZ A below args s z) (F0 m 61 ls [.int x4]) := by
        intro ls hl H locs h
        refine lv_istore (lv' := [(4, .int x4), (0, .ref (ad 0)), (1, .int v1), (2, .int v2), (3, .int v3)]) hx hb d_Md_goesByRule_61 hl (by decide) rfl (fun ls hl => ?_)
        refine lv_iload hx hb d_Md_goesByRule_63 (lv_at hl 0 rfl) ?_
        refine lv_if_eq (tgt := 87) hx hb d_Md_goesByRule_65 (by decide) (fun hc => ?_) (fun hc => ?_)
        · have hf := op_t hc hf
          refine lv_iconst (v := 0) hx hb d_Md_goesByRule_87 (by decide) ?_
          exact rt_mi C h hr hlk hf (by decide) d_Md_goesByRule_88
        · have hf := op_f hc hf
          refine lv_aload_n hx hb d_Md_goesByRule_68 rfl (lv_at hl 1 rfl) ?_
          refine lv_iload hx hb d_Md_goesByRule_69 (lv_at hl 0 rfl) ?_
          refine lv_iload_n hx hb d_Md_goesByRule_71 rfl (lv_at hl 4 rfl) ?_
          obtain ⟨⟨x14, I12, R13⟩, hc11, hf⟩ := op_bind hf
          try dsimp only at hf
          refine kc_i (rest := []) C h hA (c_Md_canGo l n x4 v3 I R) hc11 (cbW 2 hT cd_Md_canGo rfl rfl ini_Md ml_Md_170 hd_Md_canGo ⟨Nat.le_of_ble_eq_true rfl, Nat.le_of_ble_eq_true rfl⟩) im_Md_canGo sp_Md_canGo rfl hl.1 rfl (Nat.le_of_ble_eq_true rfl) d_Md_goesByRule_72 ⟨Nat.zero_le _, Nat.zero_le _⟩ (fun H locs h => ?_)
          refine lv_if_eq (tgt := 87) hx hb d_Md_goesByRule_75 (by decide) (fun hc => ?_) (fun hc => ?_)
          · have hf := op_t hc hf
            refine lv_iconst (v := 0) hx hb d_Md_goesByRule_87 (by decide) ?_
            exact rt_mi C h hr hlk hf (by decide) d_Md_goesByRule_88
          · have hf := op_f hc hf
            refine lv_aload_n hx hb d_Md_goesByRule_78 rfl (lv_at hl 1 rfl) ?_
            refine mg_18 C h d_Md_goesByRule_79 ?_
            refine lv_bipush (v := 40) hx hb d_Md_goesByRule_82 (by decide) ?_
            refine lv_icmp_ne (tgt := 89) hx hb d_Md_goesByRule_84 (by decide) (fun hc => ?_) (fun hc => ?_)
            · have hf := op_f hc hf
              refine lv_aload_n hx hb d_Md_goesByRule_89 rfl (lv_at hl 1 rfl) ?_
              refine lv_dup hx hb d_Md_goesByRule_90 rfl ?_
              refine mg_17 C h d_Md_goesByRule_91 ?_
              refine lv_aload_n hx hb d_Md_goesByRule_94 rfl (lv_at hl 1 rfl) ?_
              refine lv_iload hx hb d_Md_goesByRule_95 (lv_at hl 0 rfl) ?_
              refine lv_iload_n hx hb d_Md_goesByRule_97 rfl (lv_at hl 4 rfl) ?_
              obtain ⟨⟨x18, I16, R17⟩, hc15, hf⟩ := op_bind hf
              try dsimp only at hf
              refine kc_i (rest := [.int (I12 17), .ref (ad 0)]) C h hA (c_Md_minutesOf l n x4 v3 I12 R13) hc15 (cbW 2 hT cd_Md_minutesOf rfl rfl ini_Md ml_Md_167 hd_Md_minutesOf ⟨Nat.le_of_ble_eq_true rfl, Nat.le_of_ble_eq_true rfl⟩) im_Md_minutesOf sp_Md_minutesOf rfl hl.1 rfl (Nat.le_of_ble_eq_true rfl) d_Md_goesByRule_98 ⟨Nat.zero_le _, Nat.zero_le _⟩ (fun H locs h => ?_)
              refine lv_iadd hx hb d_Md_goesByRule_101 ?_
              refine mp_17 C h d_Md_goesByRule_102 (fun H locs h => ?_)
              refine lv_aload_n hx hb d_Md_goesByRule_105 rfl (lv_at hl 1 rfl) ?_
              refine lv_dup hx hb d_Md_goesByRule_106 rfl ?_
              refine mg_18 C h d_Md_goesByRule_107 ?_
              refine lv_iconst (v := 1) hx hb d_Md_goesByRule_110 (by decide) ?_
              refine lv_iadd hx hb d_Md_goesByRule_111 ?_
              refine mp_18 C h d_Md_goesByRule_112 (fun H locs h => ?_)
              refine lv_iload_n hx hb d_Md_goesByRule_115 rfl (lv_at hl 3 rfl) ?_
              refine lv_iload hx hb d_Md_goesByRule_116 (lv_at hl 0 rfl) ?_
              refine lv_ixor hx hb d_Md_goesByRule_118 ?_
              refine lv_istore_n (lv' := [(2, .int (v2 ^^^ x4)), (4, .int x4), (0, .ref (ad 0)), (1, .int v1), (3, .int v3)]) hx hb d_Md_goesByRule_119 rfl hl (by decide) rfl (fun ls hl => ?_)
              refine lv_iconst (v := 1) hx hb d_Md_goesByRule_120 (by decide) ?_
              refine lv_iload_n hx hb d_Md_goesByRule_121 rfl (lv_at hl 4 rfl) ?_
              refine lv_isub hx hb d_Md_goesByRule_122 ?_
              refine lv_istore_n (lv' := [(3, .int (1 - v3)), (2, .int (v2 ^^^ x4)), (4, .int x4), (0, .ref (ad 0)), (1, .int v1)]) hx hb d_Md_goesByRule_123 rfl hl (by decide) rfl (fun ls hl => ?_)
              refine lv_goto (tgt := 26) hx hb d_Md_goesByRule_124 (by decide) ?_
              exact ih (v2 ^^^ x4) (1 - v3) ((upd (upd I16 17 ((I12 17) + x18)) 18 (((upd I16 17 ((I12 17) + x18)) 18) + 1))) R17 _ hf ls (lv_sub hl [3, 4, 1, 0] rfl) H locs h
            · have hf := op_t hc hf
              refine lv_iconst (v := 0) hx hb d_Md_goesByRule_87 (by decide) ?_
              exact rt_mi C h hr hlk hf (by decide) d_Md_goesByRule_88
      have hf := he
      refine lv_icmp_ne (tgt := 48) hx hb d_Md_goesByRule_36 (by decide) (fun hc => ?_) (fun hc => ?_)
      · have hf := op_f hc hf
        refine lv_aload_n hx hb d_Md_goesByRule_48 rfl (lv_at hl 0 rfl) ?_
        refine lv_iload_n hx hb d_Md_goesByRule_49 rfl (lv_at hl 1 rfl) ?_
        refine lv_aload_n hx hb d_Md_goesByRule_50 rfl (lv_at hl 0 rfl) ?_
        obtain ⟨x6, hc5, hf⟩ := op_bind hf
        refine kc_r (rest := [.int v1, .ref (ad 0)]) C h hA (c_Md_all l n I R) hc5 (cbW 0 hT cd_Md_all rfl rfl ini_Md ml_Md_48 hd_Md_all ⟨Nat.le_of_ble_eq_true rfl, Nat.le_of_ble_eq_true rfl⟩) im_Md_all sp_Md_all rfl hl.1 rfl (Nat.le_of_ble_eq_true rfl) d_Md_goesByRule_51 ⟨Nat.zero_le _, Nat.zero_le _⟩ (fun H locs h => ?_)
        refine lv_iload_n hx hb d_Md_goesByRule_54 rfl (lv_at hl 2 rfl) ?_
        refine lv_iconst (v := (-1)) hx hb d_Md_goesByRule_55 (by decide) ?_
        refine lv_ixor hx hb d_Md_goesByRule_56 ?_
        refine lv_iand hx hb d_Md_goesByRule_57 ?_
        obtain ⟨x8, hc7, hf⟩ := op_bind hf
        refine kc_r (rest := []) C h hA (c_Md_goesBy l n v1 (x6 &&& (v2 ^^^ (-1))) I R) hc7 (cbW 2 hT cd_Md_goesBy rfl rfl ini_Md ml_Md_221 hd_Md_goesBy ⟨Nat.le_of_ble_eq_true rfl, Nat.le_of_ble_eq_true rfl⟩) im_Md_goesBy sp_Md_goesBy rfl hl.1 rfl (Nat.le_of_ble_eq_true rfl) d_Md_goesByRule_58 ⟨Nat.zero_le _, Nat.zero_le _⟩ (fun H locs h => ?_)
        obtain rfl := op_i1 hf
        exact K3 ls (lv_sub hl [0, 1, 2, 3] rfl) H locs h
      · have hf := op_t hc hf
        refine lv_aload_n hx hb d_Md_goesByRule_39 rfl (lv_at hl 0 rfl) ?_
        refine lv_iload_n hx hb d_Md_goesByRule_40 rfl (lv_at hl 2 rfl) ?_
        refine lv_iconst (v := 1) hx hb d_Md_goesByRule_41 (by decide) ?_
        obtain ⟨x10, hc9, hf⟩ := op_bind hf
        refine kc_r (rest := []) C h hA (c_Md_endOf l n v2 1 I R) hc9 (cbW 2 hT cd_Md_endOf rfl rfl ini_Md ml_Md_211 hd_Md_endOf ⟨Nat.le_of_ble_eq_true rfl, Nat.le_of_ble_eq_true rfl⟩) im_Md_endOf sp_Md_endOf rfl hl.1 rfl (Nat.le_of_ble_eq_true rfl) d_Md_goesByRule_42 ⟨Nat.zero_le _, Nat.zero_le _⟩ (fun H locs h => ?_)
        refine lv_goto (tgt := 61) hx hb d_Md_goesByRule_45 (by decide) ?_
        obtain rfl := op_i1 hf
        exact K3 ls (lv_sub hl [0, 1, 2, 3] rfl) H locs h
def p_Md_goesByRule (n : Nat) (v1 : Int32) (I : Nat → Int32) (R : Nat → Nat → Int32) : Option (Int32 × MU) := l_Md_goesByRule_26 n v1 n (R 1 9) (R 1 8) (upd (upd I 17 0) 18 0) R
set_option maxHeartbeats 4000000 in
theorem c_Md_goesByRule (l : Launch) (n : Nat) (v1 : Int32) (I : Nat → Int32) (R : Nat → Nat → Int32)  : MMi l y_Md_goesByRule b_Md_goesByRule 5 .boolean (rL 10) (fun ad adK => [.int v1]) I R (p_Md_goesByRule n v1 I R) := by
  refine en_mi (by decide) rfl (fun _ _ => Nat.le_of_ble_eq_true rfl) ?_
  intro z hf p e s m args below meth c dC dI ad cI cZ A adK adV ls C hA h hr hlk hl
  have hl : lv_has ls 5 [(0, .ref (ad 0)), (1, .int v1)] := hl
  unfold p_Md_goesByRule at hf
  obtain ⟨hx, hb, hml, hown, hT, -⟩ := id C
  refine lv_aload_n hx hb d_Md_goesByRule_0 rfl (lv_at hl 0 rfl) ?_
  refine mg_1 C h d_Md_goesByRule_1 ?_
  refine lv_bipush (v := 9) hx hb d_Md_goesByRule_4 (by decide) ?_
  refine ma_1 C h (j := 9) (by decide) (show ix 9 890 by decide) d_Md_goesByRule_6 ?_
  refine lv_istore_n (lv' := [(2, .int (R 1 9)), (0, .ref (ad 0)), (1, .int v1)]) hx hb d_Md_goesByRule_7 rfl hl (by decide) rfl (fun ls hl => ?_)
  refine lv_aload_n hx hb d_Md_goesByRule_8 rfl (lv_at hl 1 rfl) ?_
  refine mg_1 C h d_Md_goesByRule_9 ?_
  refine lv_bipush (v := 8) hx hb d_Md_goesByRule_12 (by decide) ?_
  refine ma_1 C h (j := 8) (by decide) (show ix 8 890 by decide) d_Md_goesByRule_14 ?_
  refine lv_istore_n (lv' := [(3, .int (R 1 8)), (2, .int (R 1 9)), (0, .ref (ad 0)), (1, .int v1)]) hx hb d_Md_goesByRule_15 rfl hl (by decide) rfl (fun ls hl => ?_)
  refine lv_aload_n hx hb d_Md_goesByRule_16 rfl (lv_at hl 2 rfl) ?_
  refine lv_iconst (v := 0) hx hb d_Md_goesByRule_17 (by decide) ?_
  refine mp_17 C h d_Md_goesByRule_18 (fun H locs h => ?_)
  refine lv_aload_n hx hb d_Md_goesByRule_21 rfl (lv_at hl 2 rfl) ?_
  refine lv_iconst (v := 0) hx hb d_Md_goesByRule_22 (by decide) ?_
  refine mp_18 C h d_Md_goesByRule_23 (fun H locs h => ?_)
  exact wl_Md_goesByRule_26 C hA hr hlk n v1 n (R 1 9) (R 1 8) (upd (upd I 17 0) 18 0) R _ hf ls (lv_sub hl [2, 3, 1, 0] rfl) H locs h
theorem hd_Md_chance : y_Md_chance.cls ≠ "java/lang/invoke/MethodHandle" ∧ y_Md_chance.cls ≠ "java/lang/invoke/VarHandle" ∧ (parseMethodDescriptor y_Md_chance.desc).map (fun d => d.parameters.length) = some 4 := by decide +kernel
theorem d_Md_chance_0 : decode b_Md_chance 0 = .ok (.aload_n 0, 1) := by decide +kernel
theorem d_Md_chance_1 : decode b_Md_chance 1 = .ok (.iload_n 1, 1) := by decide +kernel
theorem d_Md_chance_2 : decode b_Md_chance 2 = .ok (.invokevirtual 131, 3) := by decide +kernel
theorem d_Md_chance_5 : decode b_Md_chance 5 = .ok (.ifCond .eq 39, 3) := by decide +kernel
theorem d_Md_chance_8 : decode b_Md_chance 8 = .ok (.aload_n 0, 1) := by decide +kernel
theorem d_Md_chance_9 : decode b_Md_chance 9 = .ok (.iload_n 2, 1) := by decide +kernel
theorem d_Md_chance_10 : decode b_Md_chance 10 = .ok (.invokevirtual 164, 3) := by decide +kernel
theorem d_Md_chance_13 : decode b_Md_chance 13 = .ok (.ifCond .eq 31, 3) := by decide +kernel
theorem d_Md_chance_16 : decode b_Md_chance 16 = .ok (.iload_n 2, 1) := by decide +kernel
theorem d_Md_chance_17 : decode b_Md_chance 17 = .ok (.iload_n 1, 1) := by decide +kernel
theorem d_Md_chance_18 : decode b_Md_chance 18 = .ok (.ishr, 1) := by decide +kernel
theorem d_Md_chance_19 : decode b_Md_chance 19 = .ok (.iconst 1, 1) := by decide +kernel
theorem d_Md_chance_20 : decode b_Md_chance 20 = .ok (.iand, 1) := by decide +kernel
theorem d_Md_chance_21 : decode b_Md_chance 21 = .ok (.ifCond .eq 23, 3) := by decide +kernel
theorem d_Md_chance_24 : decode b_Md_chance 24 = .ok (.iload_n 3, 1) := by decide +kernel
theorem d_Md_chance_25 : decode b_Md_chance 25 = .ok (.iconst 0, 1) := by decide +kernel
theorem d_Md_chance_26 : decode b_Md_chance 26 = .ok (.bipush 10, 2) := by decide +kernel
theorem d_Md_chance_28 : decode b_Md_chance 28 = .ok (.invokestatic 44, 3) := by decide +kernel
theorem d_Md_chance_31 : decode b_Md_chance 31 = .ok (.ifCond .eq 13, 3) := by decide +kernel
theorem d_Md_chance_34 : decode b_Md_chance 34 = .ok (.iload 4, 2) := by decide +kernel
theorem d_Md_chance_36 : decode b_Md_chance 36 = .ok (.iconst 0, 1) := by decide +kernel
theorem d_Md_chance_37 : decode b_Md_chance 37 = .ok (.iconst 1, 1) := by decide +kernel
theorem d_Md_chance_38 : decode b_Md_chance 38 = .ok (.invokestatic 44, 3) := by decide +kernel
theorem d_Md_chance_41 : decode b_Md_chance 41 = .ok (.ifCond .ne 7, 3) := by decide +kernel
theorem d_Md_chance_44 : decode b_Md_chance 44 = .ok (.ldc2_w 236, 3) := by decide +kernel
theorem d_Md_chance_47 : decode b_Md_chance 47 = .ok (.lreturn, 1) := by decide +kernel
theorem d_Md_chance_48 : decode b_Md_chance 48 = .ok (.iconst 0, 1) := by decide +kernel
theorem d_Md_chance_49 : decode b_Md_chance 49 = .ok (.istore 5, 2) := by decide +kernel
theorem d_Md_chance_51 : decode b_Md_chance 51 = .ok (.iconst 0, 1) := by decide +kernel
theorem d_Md_chance_52 : decode b_Md_chance 52 = .ok (.istore 6, 2) := by decide +kernel
theorem d_Md_chance_54 : decode b_Md_chance 54 = .ok (.iload 6, 2) := by decide +kernel
theorem d_Md_chance_56 : decode b_Md_chance 56 = .ok (.aload_n 0, 1) := by decide +kernel
theorem d_Md_chance_57 : decode b_Md_chance 57 = .ok (.getfield 9, 3) := by decide +kernel
theorem d_Md_chance_60 : decode b_Md_chance 60 = .ok (.iconst 0, 1) := by decide +kernel
theorem d_Md_chance_61 : decode b_Md_chance 61 = .ok (.iaload, 1) := by decide +kernel
theorem d_Md_chance_62 : decode b_Md_chance 62 = .ok (.if_icmp .ge 71, 3) := by decide +kernel
theorem d_Md_chance_65 : decode b_Md_chance 65 = .ok (.iload_n 2, 1) := by decide +kernel
theorem d_Md_chance_66 : decode b_Md_chance 66 = .ok (.iload 6, 2) := by decide +kernel
theorem d_Md_chance_68 : decode b_Md_chance 68 = .ok (.ishr, 1) := by decide +kernel
theorem d_Md_chance_69 : decode b_Md_chance 69 = .ok (.iconst 1, 1) := by decide +kernel
theorem d_Md_chance_70 : decode b_Md_chance 70 = .ok (.iand, 1) := by decide +kernel
theorem d_Md_chance_71 : decode b_Md_chance 71 = .ok (.iconst 1, 1) := by decide +kernel
theorem d_Md_chance_72 : decode b_Md_chance 72 = .ok (.if_icmp .ne 14, 3) := by decide +kernel
theorem d_Md_chance_75 : decode b_Md_chance 75 = .ok (.aload_n 0, 1) := by decide +kernel
theorem d_Md_chance_76 : decode b_Md_chance 76 = .ok (.iload 6, 2) := by decide +kernel
theorem d_Md_chance_78 : decode b_Md_chance 78 = .ok (.iload_n 2, 1) := by decide +kernel
theorem d_Md_chance_79 : decode b_Md_chance 79 = .ok (.iconst 0, 1) := by decide +kernel
theorem d_Md_chance_80 : decode b_Md_chance 80 = .ok (.invokevirtual 157, 3) := by decide +kernel
theorem d_Md_chance_83 : decode b_Md_chance 83 = .ok (.goto 4, 3) := by decide +kernel
theorem d_Md_chance_86 : decode b_Md_chance 86 = .ok (.iconst 0, 1) := by decide +kernel
theorem d_Md_chance_87 : decode b_Md_chance 87 = .ok (.istore 7, 2) := by decide +kernel
theorem d_Md_chance_89 : decode b_Md_chance 89 = .ok (.iload 7, 2) := by decide +kernel
theorem d_Md_chance_91 : decode b_Md_chance 91 = .ok (.iload 6, 2) := by decide +kernel
theorem d_Md_chance_93 : decode b_Md_chance 93 = .ok (.iload_n 1, 1) := by decide +kernel
theorem d_Md_chance_94 : decode b_Md_chance 94 = .ok (.if_icmp .ne 13, 3) := by decide +kernel
theorem d_Md_chance_97 : decode b_Md_chance 97 = .ok (.iload 7, 2) := by decide +kernel
theorem d_Md_chance_99 : decode b_Md_chance 99 = .ok (.iconst 1, 1) := by decide +kernel
theorem d_Md_chance_100 : decode b_Md_chance 100 = .ok (.if_icmp .le 7, 3) := by decide +kernel
theorem d_Md_chance_103 : decode b_Md_chance 103 = .ok (.iconst 1, 1) := by decide +kernel
theorem d_Md_chance_104 : decode b_Md_chance 104 = .ok (.goto 4, 3) := by decide +kernel
theorem d_Md_chance_107 : decode b_Md_chance 107 = .ok (.iconst 0, 1) := by decide +kernel
theorem d_Md_chance_108 : decode b_Md_chance 108 = .ok (.isub, 1) := by decide +kernel
theorem d_Md_chance_109 : decode b_Md_chance 109 = .ok (.istore 7, 2) := by decide +kernel
theorem d_Md_chance_111 : decode b_Md_chance 111 = .ok (.iload 7, 2) := by decide +kernel
theorem d_Md_chance_113 : decode b_Md_chance 113 = .ok (.iload 5, 2) := by decide +kernel
theorem d_Md_chance_115 : decode b_Md_chance 115 = .ok (.if_icmp .le 8, 3) := by decide +kernel
theorem d_Md_chance_118 : decode b_Md_chance 118 = .ok (.iload 7, 2) := by decide +kernel
theorem d_Md_chance_120 : decode b_Md_chance 120 = .ok (.goto 5, 3) := by decide +kernel
theorem d_Md_chance_123 : decode b_Md_chance 123 = .ok (.iload 5, 2) := by decide +kernel
theorem d_Md_chance_125 : decode b_Md_chance 125 = .ok (.istore 5, 2) := by decide +kernel
theorem d_Md_chance_127 : decode b_Md_chance 127 = .ok (.iinc 6 1, 3) := by decide +kernel
theorem d_Md_chance_130 : decode b_Md_chance 130 = .ok (.goto (-76), 3) := by decide +kernel
theorem d_Md_chance_133 : decode b_Md_chance 133 = .ok (.iload_n 3, 1) := by decide +kernel
theorem d_Md_chance_134 : decode b_Md_chance 134 = .ok (.iload 5, 2) := by decide +kernel
theorem d_Md_chance_136 : decode b_Md_chance 136 = .ok (.imul, 1) := by decide +kernel
theorem d_Md_chance_137 : decode b_Md_chance 137 = .ok (.bipush 10, 2) := by decide +kernel
theorem d_Md_chance_139 : decode b_Md_chance 139 = .ok (.iload_n 3, 1) := by decide +kernel
theorem d_Md_chance_140 : decode b_Md_chance 140 = .ok (.isub, 1) := by decide +kernel
theorem d_Md_chance_141 : decode b_Md_chance 141 = .ok (.aload_n 0, 1) := by decide +kernel
theorem d_Md_chance_142 : decode b_Md_chance 142 = .ok (.iload_n 2, 1) := by decide +kernel
theorem d_Md_chance_143 : decode b_Md_chance 143 = .ok (.iconst 0, 1) := by decide +kernel
theorem d_Md_chance_144 : decode b_Md_chance 144 = .ok (.invokevirtual 167, 3) := by decide +kernel
theorem d_Md_chance_147 : decode b_Md_chance 147 = .ok (.imul, 1) := by decide +kernel
theorem d_Md_chance_148 : decode b_Md_chance 148 = .ok (.iadd, 1) := by decide +kernel
theorem d_Md_chance_149 : decode b_Md_chance 149 = .ok (.i2l, 1) := by decide +kernel
theorem d_Md_chance_150 : decode b_Md_chance 150 = .ok (.ldc2_w 238, 3) := by decide +kernel
theorem d_Md_chance_153 : decode b_Md_chance 153 = .ok (.iload 4, 2) := by decide +kernel
theorem d_Md_chance_155 : decode b_Md_chance 155 = .ok (.invokestatic 240, 3) := by decide +kernel
theorem d_Md_chance_158 : decode b_Md_chance 158 = .ok (.lreturn, 1) := by decide +kernel
def l_Md_chance_54 (n : Nat)  (v1 : Int32) (v2 : Int32) (v3 : Int32) (v4 : Int32)  : Nat → Int32 → Int32 → (Nat → Int32) → (Nat → Nat → Int32) → Option (Int32 × (Nat → Int32) × (Nat → Nat → Int32))
  | 0, _, _, _, _ => none
  | k + 1, v5, v6, I, R => (if (R 1 0) ≤ v6 then some (v5, I, R) else (if ((v2 >>> (v6 &&& 31)) &&& 1) = 1 then (p_Md_takes n v6 v2 0 I R).bind fun (x16, I14, R15) => some (x16, I14, R15) else some (0, I, R) : Option (Int32 × (Nat → Int32) × (Nat → Nat → Int32))).bind fun (x10, I11, R12) => (if v6 = v1 then (if x10 ≤ 1 then some 0 else some 1) else some 0 : Option (Int32)).bind fun x18 => (if (x10 - x18) ≤ v5 then some v5 else some (x10 - x18) : Option (Int32)).bind fun x20 => l_Md_chance_54 n v1 v2 v3 v4 k x20 (v6 + 1) I11 R12)
set_option maxHeartbeats 4000000 in
theorem wl_Md_chance_54 {Q : State → Prop}  {p : Program} {l : Launch} {e : Env} {s : State} {m : MethodId} {args : Array Value} {below : List Frame} {meth : Method} {c : Code} {dC : Nat → ClassId} {dI : Nat → Nat → Nat} {ad : Nat → Nat} {cI cZ : ClassId} {A : Nat → Prop} {adK adV : Nat → Nat} (C : mC p s m args c b_Md_chance 8 dC dI cI cZ A adK adV) (hA : ∀ q, s.heap.size ≤ q → A q) (hr : meth.sig.returnType = some .long) (hlk : meth.locks = false) (n : Nat)  (v1 : Int32) (v2 : Int32) (v3 : Int32) (v4 : Int32)  : ∀ (k : Nat) (v5 : Int32) (v6 : Int32) (I : Nat → Int32) (R : Nat → Nat → Int32) (r0 : Int32) (r1 : Nat → Int32) (r2 : Nat → Nat → Int32), l_Md_chance_54 n v1 v2 v3 v4 k v5 v6 I R = some (r0, r1, r2) → (∀ (ls : Array Slot), lv_has ls 8 [(0, .ref (ad 0)), (2, .int v2), (3, .int v3), (4, .int v4), (5, .int r0)] → ∀ (H : Heap) (locs : List Loc), mH A s.heap dC dI ad cI cZ r1 r2 H locs → W p l e (rL 10) s m args below meth c H locs 0 0 Q (F0 m 133 ls [])) → ∀ (ls : Array Slot), lv_has ls 8 [(0, .ref (ad 0)), (1, .int v1), (2, .int v2), (3, .int v3), (4, .int v4), (5, .int v5), (6, .int v6)] → ∀ (H : Heap) (locs : List Loc), mH A s.heap dC dI ad cI cZ I R H locs → W p l e (rL 10) s m args below meth c H locs 0 0 Q (F0 m 54 ls []) := by
  obtain ⟨hx, hb, hml, hown, hT, -⟩ := id C
  intro k
  induction k with
  | zero => intro v5 v6 I R r0 r1 r2 hf; exact absurd hf (by unfold l_Md_chance_54; exact fun h9 => by cases h9)
  | succ k ih =>
    intro v5 v6 I R r0 r1 r2 hf K ls hl H locs h
    unfold l_Md_chance_54 at hf
    refine lv_iload hx hb d_Md_chance_54 (lv_at hl 6 rfl) ?_
    refine lv_aload_n hx hb d_Md_chance_56 rfl (lv_at hl 0 rfl) ?_
    refine mg_1 C h d_Md_chance_57 ?_
    refine lv_iconst (v := 0) hx hb d_Md_chance_60 (by decide) ?_
    refine ma_1 C h (j := 0) (by decide) (show ix 0 890 by decide) d_Md_chance_61 ?_
    refine lv_icmp_ge (tgt := 133) hx hb d_Md_chance_62 (by decide) (fun hc => ?_) (fun hc => ?_)
    · have hf := op_t hc hf
      obtain ⟨rfl, rfl, rfl⟩ := op_i3 hf
      exact K ls (lv_sub hl [0, 2, 3, 4, 5] rfl) H locs h
    · have hf := op_f hc hf
      refine lv_iload_n hx hb d_Md_chance_65 rfl (lv_at hl 2 rfl) ?_
      refine lv_iload hx hb d_Md_chance_66 (lv_at hl 6 rfl) ?_
      refine lv_ishr hx hb d_Md_chance_68 ?_
      refine lv_iconst (v := 1) hx hb d_Md_chance_69 (by decide) ?_
      refine lv_iand hx hb d_Md_chance_70 ?_
      refine lv_iconst (v := 1) hx hb d_Md_chance_71 (by decide) ?_
      obtain ⟨⟨x10, I11, R12⟩, he, hf⟩ := op_bind hf
      try dsimp only at hf
      have K9 : ∀ (ls : Array Slot), lv_has ls 8 [(0, .ref (ad 0)), (1, .int v1), (2, .int v2), (3, .int v3), (4, .int v4), (5, .int v5), (6, .int v6)] → ∀ (H : Heap) (locs : List Loc), mH A s.heap dC dI ad cI cZ I11 R12 H locs → W p l e (rL 10) s m args below meth c H locs 0 0 Q (F0 m 87 ls [.int x10]) := by
        intro ls hl H locs h
        refine lv_istore (lv' := [(7, .int x10), (0, .ref (ad 0)), (1, .int v1), (2, .int v2), (3, .int v3), (4, .int v4), (5, .int v5), (6, .int v6)]) hx hb d_Md_chance_87 hl (by decide) rfl (fun ls hl => ?_)
        refine lv_iload hx hb d_Md_chance_89 (lv_at hl 0 rfl) ?_
        refine lv_iload hx hb d_Md_chance_91 (lv_at hl 7 rfl) ?_
        refine lv_iload_n hx hb d_Md_chance_93 rfl (lv_at hl 2 rfl) ?_
        obtain ⟨x18, he, hf⟩ := op_bind hf
        have K17 : ∀ (ls : Array Slot), lv_has ls 8 [(0, .ref (ad 0)), (1, .int v1), (2, .int v2), (3, .int v3), (4, .int v4), (5, .int v5), (6, .int v6)] → ∀ (H : Heap) (locs : List Loc), mH A s.heap dC dI ad cI cZ I11 R12 H locs → W p l e (rL 10) s m args below meth c H locs 0 0 Q (F0 m 108 ls [.int x18, .int x10]) := by
          intro ls hl H locs h
          refine lv_isub hx hb d_Md_chance_108 ?_
          refine lv_istore (lv' := [(7, .int (x10 - x18)), (0, .ref (ad 0)), (1, .int v1), (2, .int v2), (3, .int v3), (4, .int v4), (5, .int v5), (6, .int v6)]) hx hb d_Md_chance_109 hl (by decide) rfl (fun ls hl => ?_)
          refine lv_iload hx hb d_Md_chance_111 (lv_at hl 0 rfl) ?_
          refine lv_iload hx hb d_Md_chance_113 (lv_at hl 6 rfl) ?_
          obtain ⟨x20, he, hf⟩ := op_bind hf
          have K19 : ∀ (ls : Array Slot), lv_has ls 8 [(0, .ref (ad 0)), (1, .int v1), (2, .int v2), (3, .int v3), (4, .int v4), (6, .int v6)] → ∀ (H : Heap) (locs : List Loc), mH A s.heap dC dI ad cI cZ I11 R12 H locs → W p l e (rL 10) s m args below meth c H locs 0 0 Q (F0 m 125 ls [.int x20]) := by
            intro ls hl H locs h
            refine lv_istore (lv' := [(5, .int x20), (0, .ref (ad 0)), (1, .int v1), (2, .int v2), (3, .int v3), (4, .int v4), (6, .int v6)]) hx hb d_Md_chance_125 hl (by decide) rfl (fun ls hl => ?_)
            refine lv_iinc (v := (v6 + 1)) (lv' := [(6, .int (v6 + 1)), (5, .int x20), (0, .ref (ad 0)), (1, .int v1), (2, .int v2), (3, .int v3), (4, .int v4)]) hx hb d_Md_chance_127 hl (k := 6) rfl rfl (by decide) rfl (fun ls hl => ?_)
            refine lv_goto (tgt := 54) hx hb d_Md_chance_130 (by decide) ?_
            exact ih x20 (v6 + 1) I11 R12 _ _ _ hf K ls (lv_sub hl [2, 3, 4, 5, 6, 1, 0] rfl) H locs h
          have hf := he
          refine lv_icmp_le (tgt := 123) hx hb d_Md_chance_115 (by decide) (fun hc => ?_) (fun hc => ?_)
          · have hf := op_t hc hf
            refine lv_iload hx hb d_Md_chance_123 (lv_at hl 6 rfl) ?_
            obtain rfl := op_i1 hf
            exact K19 ls (lv_sub hl [1, 2, 3, 4, 5, 7] rfl) H locs h
          · have hf := op_f hc hf
            refine lv_iload hx hb d_Md_chance_118 (lv_at hl 0 rfl) ?_
            refine lv_goto (tgt := 125) hx hb d_Md_chance_120 (by decide) ?_
            obtain rfl := op_i1 hf
            exact K19 ls (lv_sub hl [1, 2, 3, 4, 5, 7] rfl) H locs h
        have hf := he
        refine lv_icmp_ne (tgt := 107) hx hb d_Md_chance_94 (by decide) (fun hc => ?_) (fun hc => ?_)
        · have hf := op_f hc hf
          refine lv_iconst (v := 0) hx hb d_Md_chance_107 (by decide) ?_
          obtain rfl := op_i1 hf
          exact K17 ls (lv_sub hl [1, 2, 3, 4, 5, 6, 7] rfl) H locs h
        · have hf := op_t hc hf
          refine lv_iload hx hb d_Md_chance_97 (lv_at hl 0 rfl) ?_
          refine lv_iconst (v := 1) hx hb d_Md_chance_99 (by decide) ?_
          refine lv_icmp_le (tgt := 107) hx hb d_Md_chance_100 (by decide) (fun hc => ?_) (fun hc => ?_)
          · have hf := op_t hc hf
            refine lv_iconst (v := 0) hx hb d_Md_chance_107 (by decide) ?_
            obtain rfl := op_i1 hf
            exact K17 ls (lv_sub hl [1, 2, 3, 4, 5, 6, 7] rfl) H locs h
          · have hf := op_f hc hf
            refine lv_iconst (v := 1) hx hb d_Md_chance_103 (by decide) ?_
            refine lv_goto (tgt := 108) hx hb d_Md_chance_104 (by decide) ?_
            obtain rfl := op_i1 hf
            exact K17 ls (lv_sub hl [1, 2, 3, 4, 5, 6, 7] rfl) H locs h
      have hf := he
      refine lv_icmp_ne (tgt := 86) hx hb d_Md_chance_72 (by decide) (fun hc => ?_) (fun hc => ?_)
      · have hf := op_f hc hf
        refine lv_iconst (v := 0) hx hb d_Md_chance_86 (by decide) ?_
        obtain ⟨rfl, rfl, rfl⟩ := op_i3 hf
        exact K9 ls (lv_sub hl [0, 1, 2, 3, 4, 5, 6] rfl) H locs h
      · have hf := op_t hc hf
        refine lv_aload_n hx hb d_Md_chance_75 rfl (lv_at hl 0 rfl) ?_
        refine lv_iload hx hb d_Md_chance_76 (lv_at hl 6 rfl) ?_
        refine lv_iload_n hx hb d_Md_chance_78 rfl (lv_at hl 2 rfl) ?_
        refine lv_iconst (v := 0) hx hb d_Md_chance_79 (by decide) ?_
        obtain ⟨⟨x16, I14, R15⟩, hc13, hf⟩ := op_bind hf
        try dsimp only at hf
        refine kc_i (rest := []) C h hA (c_Md_takes l n v6 v2 0 I R) hc13 (cbW 3 hT cd_Md_takes rfl rfl ini_Md ml_Md_157 hd_Md_takes ⟨Nat.le_of_ble_eq_true rfl, Nat.le_of_ble_eq_true rfl⟩) im_Md_takes sp_Md_takes rfl hl.1 rfl (Nat.le_of_ble_eq_true rfl) d_Md_chance_80 ⟨Nat.zero_le _, Nat.zero_le _⟩ (fun H locs h => ?_)
        refine lv_goto (tgt := 87) hx hb d_Md_chance_83 (by decide) ?_
        obtain ⟨rfl, rfl, rfl⟩ := op_i3 hf
        exact K9 ls (lv_sub hl [0, 1, 2, 3, 4, 5, 6] rfl) H locs h
def p_Md_chance (n : Nat) (v1 : Int32) (v2 : Int32) (v3 : Int32) (v4 : Int32) (I : Nat → Int32) (R : Nat → Nat → Int32) : Option (Int64 × MU) := (p_Md_isPerson n v1 I R).bind fun x2 => (if x2 = 0 then some ((-9223372036854775808), I, R) else (p_Md_isSet n v2 I R).bind fun x4 => (if x4 = 0 then some ((-9223372036854775808), I, R) else (if ((v2 >>> (v1 &&& 31)) &&& 1) = 0 then some ((-9223372036854775808), I, R) else (p_Md_in n v3 0 10).bind fun x6 => (if x6 = 0 then some ((-9223372036854775808), I, R) else (p_Md_in n v4 0 1).bind fun x8 => (if x8 = 0 then some ((-9223372036854775808), I, R) else (l_Md_chance_54 n v1 v2 v3 v4 n 0 0 I R).bind fun (y21, I22, R23) => (p_Md_minutesOf n v2 0 I22 R23).bind fun (x27, I25, R26) => (p_Md_lowest n (((v3 * y21) + ((10 - v3) * x27)).toInt64) (10) v4).bind fun x29 => some (x29, I25, R26))))))
set_option maxHeartbeats 4000000 in
theorem c_Md_chance (l : Launch) (n : Nat) (v1 : Int32) (v2 : Int32) (v3 : Int32) (v4 : Int32) (I : Nat → Int32) (R : Nat → Nat → Int32)  : MMl l y_Md_chance b_Md_chance 8 (rL 10) (fun ad adK => [.int v1, .int v2, .int v3, .int v4]) I R (p_Md_chance n v1 v2 v3 v4 I R) := by
  refine en_ml (by decide) rfl (fun _ _ => Nat.le_of_ble_eq_true rfl) ?_
  intro z hf p e s m args below meth c dC dI ad cI cZ A adK adV ls C hA h hr hlk hl
  have hl : lv_has ls 8 [(0, .ref (ad 0)), (1, .int v1), (2, .int v2), (3, .int v3), (4, .int v4)] := hl
  unfold p_Md_chance at hf
  obtain ⟨hx, hb, hml, hown, hT, -⟩ := id C
  refine lv_aload_n hx hb d_Md_chance_0 rfl (lv_at hl 0 rfl) ?_
  refine lv_iload_n hx hb d_Md_chance_1 rfl (lv_at hl 1 rfl) ?_
  obtain ⟨x2, hc1, hf⟩ := op_bind hf
  refine kc_r (rest := []) C h hA (c_Md_isPerson l n v1 I R) hc1 (cbW 1 hT cd_Md_isPerson rfl rfl ini_Md ml_Md_131 hd_Md_isPerson ⟨Nat.le_of_ble_eq_true rfl, Nat.le_of_ble_eq_true rfl⟩) im_Md_isPerson sp_Md_isPerson rfl hl.1 rfl (Nat.le_of_ble_eq_true rfl) d_Md_chance_2 ⟨Nat.zero_le _, Nat.zero_le _⟩ (fun H locs h => ?_)
  refine lv_if_eq (tgt := 44) hx hb d_Md_chance_5 (by decide) (fun hc => ?_) (fun hc => ?_)
  · have hf := op_t hc hf
    refine lv_ldc2 (v := (-9223372036854775808)) hx hb hown (hT _ kj_Md_236) d_Md_chance_44 ?_
    exact rt_ml C h hr hlk hf d_Md_chance_47
  · have hf := op_f hc hf
    refine lv_aload_n hx hb d_Md_chance_8 rfl (lv_at hl 0 rfl) ?_
    refine lv_iload_n hx hb d_Md_chance_9 rfl (lv_at hl 2 rfl) ?_
    obtain ⟨x4, hc3, hf⟩ := op_bind hf
    refine kc_r (rest := []) C h hA (c_Md_isSet l n v2 I R) hc3 (cbW 1 hT cd_Md_isSet rfl rfl ini_Md ml_Md_164 hd_Md_isSet ⟨Nat.le_of_ble_eq_true rfl, Nat.le_of_ble_eq_true rfl⟩) im_Md_isSet sp_Md_isSet rfl hl.1 rfl (Nat.le_of_ble_eq_true rfl) d_Md_chance_10 ⟨Nat.zero_le _, Nat.zero_le _⟩ (fun H locs h => ?_)
    refine lv_if_eq (tgt := 44) hx hb d_Md_chance_13 (by decide) (fun hc => ?_) (fun hc => ?_)
    · have hf := op_t hc hf
      refine lv_ldc2 (v := (-9223372036854775808)) hx hb hown (hT _ kj_Md_236) d_Md_chance_44 ?_
      exact rt_ml C h hr hlk hf d_Md_chance_47
    · have hf := op_f hc hf
      refine lv_iload_n hx hb d_Md_chance_16 rfl (lv_at hl 2 rfl) ?_
      refine lv_iload_n hx hb d_Md_chance_17 rfl (lv_at hl 1 rfl) ?_
      refine lv_ishr hx hb d_Md_chance_18 ?_
      refine lv_iconst (v := 1) hx hb d_Md_chance_19 (by decide) ?_
      refine lv_iand hx hb d_Md_chance_20 ?_
      refine lv_if_eq (tgt := 44) hx hb d_Md_chance_21 (by decide) (fun hc => ?_) (fun hc => ?_)
      · have hf := op_t hc hf
        refine lv_ldc2 (v := (-9223372036854775808)) hx hb hown (hT _ kj_Md_236) d_Md_chance_44 ?_
        exact rt_ml C h hr hlk hf d_Md_chance_47
      · have hf := op_f hc hf
        refine lv_iload_n hx hb d_Md_chance_24 rfl (lv_at hl 3 rfl) ?_
        refine lv_iconst (v := 0) hx hb d_Md_chance_25 (by decide) ?_
        refine lv_bipush (v := 10) hx hb d_Md_chance_26 (by decide) ?_
        obtain ⟨x6, hc5, hf⟩ := op_bind hf
        refine ks_i (rest := []) hx hb hml hown hT (c_Md_in l n v3 0 10 _ hc5) (cbW 3 hT cd_Md_in rfl rfl ini_Md ml_Md_44 hd_Md_in ⟨Nat.le_of_ble_eq_true rfl, Nat.le_of_ble_eq_true rfl⟩) sm_Md_in rfl hl.1 rfl (Nat.le_of_ble_eq_true rfl) d_Md_chance_28 ⟨Nat.zero_le _, Nat.zero_le _⟩ ?_
        refine lv_if_eq (tgt := 44) hx hb d_Md_chance_31 (by decide) (fun hc => ?_) (fun hc => ?_)
        · have hf := op_t hc hf
          refine lv_ldc2 (v := (-9223372036854775808)) hx hb hown (hT _ kj_Md_236) d_Md_chance_44 ?_
          exact rt_ml C h hr hlk hf d_Md_chance_47
        · have hf := op_f hc hf
          refine lv_iload hx hb d_Md_chance_34 (lv_at hl 4 rfl) ?_
          refine lv_iconst (v := 0) hx hb d_Md_chance_36 (by decide) ?_
          refine lv_iconst (v := 1) hx hb d_Md_chance_37 (by decide) ?_
          obtain ⟨x8, hc7, hf⟩ := op_bind hf
          refine ks_i (rest := []) hx hb hml hown hT (c_Md_in l n v4 0 1 _ hc7) (cbW 3 hT cd_Md_in rfl rfl ini_Md ml_Md_44 hd_Md_in ⟨Nat.le_of_ble_eq_true rfl, Nat.le_of_ble_eq_true rfl⟩) sm_Md_in rfl hl.1 rfl (Nat.le_of_ble_eq_true rfl) d_Md_chance_38 ⟨Nat.zero_le _, Nat.zero_le _⟩ ?_
          refine lv_if_ne (tgt := 48) hx hb d_Md_chance_41 (by decide) (fun hc => ?_) (fun hc => ?_)
          · have hf := op_f hc hf
            refine lv_iconst (v := 0) hx hb d_Md_chance_48 (by decide) ?_
            refine lv_istore (lv' := [(5, .int 0), (0, .ref (ad 0)), (1, .int v1), (2, .int v2), (3, .int v3), (4, .int v4)]) hx hb d_Md_chance_49 hl (by decide) rfl (fun ls hl => ?_)
            refine lv_iconst (v := 0) hx hb d_Md_chance_51 (by decide) ?_
            refine lv_istore (lv' := [(6, .int 0), (5, .int 0), (0, .ref (ad 0)), (1, .int v1), (2, .int v2), (3, .int v3), (4, .int v4)]) hx hb d_Md_chance_52 hl (by decide) rfl (fun ls hl => ?_)
            obtain ⟨⟨y21, I22, R23⟩, he, hf⟩ := op_bind hf
            try dsimp only at hf
            refine wl_Md_chance_54 C hA hr hlk n v1 v2 v3 v4 n 0 0 I R _ _ _ he (fun ls hl H locs h => ?_) ls (lv_sub hl [2, 3, 4, 5, 6, 1, 0] rfl) H locs h
            refine lv_iload_n hx hb d_Md_chance_133 rfl (lv_at hl 2 rfl) ?_
            refine lv_iload hx hb d_Md_chance_134 (lv_at hl 4 rfl) ?_
            refine lv_imul hx hb d_Md_chance_136 ?_
            refine lv_bipush (v := 10) hx hb d_Md_chance_137 (by decide) ?_
            refine lv_iload_n hx hb d_Md_chance_139 rfl (lv_at hl 2 rfl) ?_
            refine lv_isub hx hb d_Md_chance_140 ?_
            refine lv_aload_n hx hb d_Md_chance_141 rfl (lv_at hl 0 rfl) ?_
            refine lv_iload_n hx hb d_Md_chance_142 rfl (lv_at hl 1 rfl) ?_
            refine lv_iconst (v := 0) hx hb d_Md_chance_143 (by decide) ?_
            obtain ⟨⟨x27, I25, R26⟩, hc24, hf⟩ := op_bind hf
            try dsimp only at hf
            refine kc_i (rest := [.int (10 - v3), .int (v3 * y21)]) C h hA (c_Md_minutesOf l n v2 0 I22 R23) hc24 (cbW 2 hT cd_Md_minutesOf rfl rfl ini_Md ml_Md_167 hd_Md_minutesOf ⟨Nat.le_of_ble_eq_true rfl, Nat.le_of_ble_eq_true rfl⟩) im_Md_minutesOf sp_Md_minutesOf rfl hl.1 rfl (Nat.le_of_ble_eq_true rfl) d_Md_chance_144 ⟨Nat.zero_le _, Nat.zero_le _⟩ (fun H locs h => ?_)
            refine lv_imul hx hb d_Md_chance_147 ?_
            refine lv_iadd hx hb d_Md_chance_148 ?_
            refine lv_i2l hx hb d_Md_chance_149 rfl ?_
            refine lv_ldc2 (v := (10)) hx hb hown (hT _ kj_Md_238) d_Md_chance_150 ?_
            refine lv_iload hx hb d_Md_chance_153 (lv_at hl 3 rfl) ?_
            obtain ⟨x29, hc28, hf⟩ := op_bind hf
            refine ks_l (rest := []) hx hb hml hown hT (c_Md_lowest l n (((v3 * y21) + ((10 - v3) * x27)).toInt64) (10) v4 _ hc28) (cbW 3 hT cd_Md_lowest rfl rfl ini_Md ml_Md_240 hd_Md_lowest ⟨Nat.le_of_ble_eq_true rfl, Nat.le_of_ble_eq_true rfl⟩) sm_Md_lowest rfl hl.1 rfl (Nat.le_of_ble_eq_true rfl) d_Md_chance_155 ⟨Nat.zero_le _, Nat.zero_le _⟩ ?_
            exact rt_ml C h hr hlk hf d_Md_chance_158
          · have hf := op_t hc hf
            refine lv_ldc2 (v := (-9223372036854775808)) hx hb hown (hT _ kj_Md_236) d_Md_chance_44 ?_
            exact rt_ml C h hr hlk hf d_Md_chance_47
theorem hd_Md_looked : y_Md_looked.cls ≠ "java/lang/invoke/MethodHandle" ∧ y_Md_looked.cls ≠ "java/lang/invoke/VarHandle" ∧ (parseMethodDescriptor y_Md_looked.desc).map (fun d => d.parameters.length) = some 1 := by decide +kernel
theorem d_Md_looked_0 : decode b_Md_looked 0 = .ok (.iload_n 1, 1) := by decide +kernel
theorem d_Md_looked_1 : decode b_Md_looked 1 = .ok (.iconst 0, 1) := by decide +kernel
theorem d_Md_looked_2 : decode b_Md_looked 2 = .ok (.iconst 1, 1) := by decide +kernel
theorem d_Md_looked_3 : decode b_Md_looked 3 = .ok (.invokestatic 44, 3) := by decide +kernel
theorem d_Md_looked_6 : decode b_Md_looked 6 = .ok (.ifCond .ne 5, 3) := by decide +kernel
theorem d_Md_looked_9 : decode b_Md_looked 9 = .ok (.iconst (-1), 1) := by decide +kernel
theorem d_Md_looked_10 : decode b_Md_looked 10 = .ok (.ireturn, 1) := by decide +kernel
theorem d_Md_looked_11 : decode b_Md_looked 11 = .ok (.aload_n 0, 1) := by decide +kernel
theorem d_Md_looked_12 : decode b_Md_looked 12 = .ok (.getfield 9, 3) := by decide +kernel
theorem d_Md_looked_15 : decode b_Md_looked 15 = .ok (.bipush 9, 2) := by decide +kernel
theorem d_Md_looked_17 : decode b_Md_looked 17 = .ok (.iaload, 1) := by decide +kernel
theorem d_Md_looked_18 : decode b_Md_looked 18 = .ok (.istore_n 2, 1) := by decide +kernel
theorem d_Md_looked_19 : decode b_Md_looked 19 = .ok (.aload_n 0, 1) := by decide +kernel
theorem d_Md_looked_20 : decode b_Md_looked 20 = .ok (.getfield 9, 3) := by decide +kernel
theorem d_Md_looked_23 : decode b_Md_looked 23 = .ok (.bipush 8, 2) := by decide +kernel
theorem d_Md_looked_25 : decode b_Md_looked 25 = .ok (.iaload, 1) := by decide +kernel
theorem d_Md_looked_26 : decode b_Md_looked 26 = .ok (.istore_n 3, 1) := by decide +kernel
theorem d_Md_looked_27 : decode b_Md_looked 27 = .ok (.iconst 0, 1) := by decide +kernel
theorem d_Md_looked_28 : decode b_Md_looked 28 = .ok (.istore 4, 2) := by decide +kernel
theorem d_Md_looked_30 : decode b_Md_looked 30 = .ok (.iconst 0, 1) := by decide +kernel
theorem d_Md_looked_31 : decode b_Md_looked 31 = .ok (.istore 5, 2) := by decide +kernel
theorem d_Md_looked_33 : decode b_Md_looked 33 = .ok (.iload 5, 2) := by decide +kernel
theorem d_Md_looked_35 : decode b_Md_looked 35 = .ok (.aload_n 0, 1) := by decide +kernel
theorem d_Md_looked_36 : decode b_Md_looked 36 = .ok (.getfield 9, 3) := by decide +kernel
theorem d_Md_looked_39 : decode b_Md_looked 39 = .ok (.iconst 3, 1) := by decide +kernel
theorem d_Md_looked_40 : decode b_Md_looked 40 = .ok (.iaload, 1) := by decide +kernel
theorem d_Md_looked_41 : decode b_Md_looked 41 = .ok (.if_icmp .ge 74, 3) := by decide +kernel
theorem d_Md_looked_44 : decode b_Md_looked 44 = .ok (.aload_n 0, 1) := by decide +kernel
theorem d_Md_looked_45 : decode b_Md_looked 45 = .ok (.getfield 9, 3) := by decide +kernel
theorem d_Md_looked_48 : decode b_Md_looked 48 = .ok (.bipush 58, 2) := by decide +kernel
theorem d_Md_looked_50 : decode b_Md_looked 50 = .ok (.iload 5, 2) := by decide +kernel
theorem d_Md_looked_52 : decode b_Md_looked 52 = .ok (.iadd, 1) := by decide +kernel
theorem d_Md_looked_53 : decode b_Md_looked 53 = .ok (.iaload, 1) := by decide +kernel
theorem d_Md_looked_54 : decode b_Md_looked 54 = .ok (.istore 6, 2) := by decide +kernel
theorem d_Md_looked_56 : decode b_Md_looked 56 = .ok (.iload 6, 2) := by decide +kernel
theorem d_Md_looked_58 : decode b_Md_looked 58 = .ok (.iload_n 2, 1) := by decide +kernel
theorem d_Md_looked_59 : decode b_Md_looked 59 = .ok (.iload_n 3, 1) := by decide +kernel
theorem d_Md_looked_60 : decode b_Md_looked 60 = .ok (.invokestatic 173, 3) := by decide +kernel
theorem d_Md_looked_63 : decode b_Md_looked 63 = .ok (.ifCond .eq 13, 3) := by decide +kernel
theorem d_Md_looked_66 : decode b_Md_looked 66 = .ok (.aload_n 0, 1) := by decide +kernel
theorem d_Md_looked_67 : decode b_Md_looked 67 = .ok (.iload 6, 2) := by decide +kernel
theorem d_Md_looked_69 : decode b_Md_looked 69 = .ok (.iload_n 3, 1) := by decide +kernel
theorem d_Md_looked_70 : decode b_Md_looked 70 = .ok (.invokevirtual 170, 3) := by decide +kernel
theorem d_Md_looked_73 : decode b_Md_looked 73 = .ok (.ifCond .ne 15, 3) := by decide +kernel
theorem d_Md_looked_76 : decode b_Md_looked 76 = .ok (.iload_n 1, 1) := by decide +kernel
theorem d_Md_looked_77 : decode b_Md_looked 77 = .ok (.ifCond .ne 8, 3) := by decide +kernel
theorem d_Md_looked_80 : decode b_Md_looked 80 = .ok (.iload 5, 2) := by decide +kernel
theorem d_Md_looked_82 : decode b_Md_looked 82 = .ok (.goto 5, 3) := by decide +kernel
theorem d_Md_looked_85 : decode b_Md_looked 85 = .ok (.iload 4, 2) := by decide +kernel
theorem d_Md_looked_87 : decode b_Md_looked 87 = .ok (.ireturn, 1) := by decide +kernel
theorem d_Md_looked_88 : decode b_Md_looked 88 = .ok (.iload 4, 2) := by decide +kernel
theorem d_Md_looked_90 : decode b_Md_looked 90 = .ok (.aload_n 0, 1) := by decide +kernel
theorem d_Md_looked_91 : decode b_Md_looked 91 = .ok (.iload 6, 2) := by decide +kernel
theorem d_Md_looked_93 : decode b_Md_looked 93 = .ok (.iload_n 3, 1) := by decide +kernel
theorem d_Md_looked_94 : decode b_Md_looked 94 = .ok (.invokevirtual 167, 3) := by decide +kernel
theorem d_Md_looked_97 : decode b_Md_looked 97 = .ok (.iadd, 1) := by decide +kernel
theorem d_Md_looked_98 : decode b_Md_looked 98 = .ok (.istore 4, 2) := by decide +kernel
theorem d_Md_looked_100 : decode b_Md_looked 100 = .ok (.iload_n 2, 1) := by decide +kernel
theorem d_Md_looked_101 : decode b_Md_looked 101 = .ok (.iload 6, 2) := by decide +kernel
theorem d_Md_looked_103 : decode b_Md_looked 103 = .ok (.ixor, 1) := by decide +kernel
theorem d_Md_looked_104 : decode b_Md_looked 104 = .ok (.istore_n 2, 1) := by decide +kernel
theorem d_Md_looked_105 : decode b_Md_looked 105 = .ok (.iconst 1, 1) := by decide +kernel
theorem d_Md_looked_106 : decode b_Md_looked 106 = .ok (.iload_n 3, 1) := by decide +kernel
theorem d_Md_looked_107 : decode b_Md_looked 107 = .ok (.isub, 1) := by decide +kernel
theorem d_Md_looked_108 : decode b_Md_looked 108 = .ok (.istore_n 3, 1) := by decide +kernel
theorem d_Md_looked_109 : decode b_Md_looked 109 = .ok (.iinc 5 1, 3) := by decide +kernel
theorem d_Md_looked_112 : decode b_Md_looked 112 = .ok (.goto (-79), 3) := by decide +kernel
theorem d_Md_looked_115 : decode b_Md_looked 115 = .ok (.iload_n 1, 1) := by decide +kernel
theorem d_Md_looked_116 : decode b_Md_looked 116 = .ok (.ifCond .ne 8, 3) := by decide +kernel
theorem d_Md_looked_119 : decode b_Md_looked 119 = .ok (.bipush (-5), 2) := by decide +kernel
theorem d_Md_looked_121 : decode b_Md_looked 121 = .ok (.goto 5, 3) := by decide +kernel
theorem d_Md_looked_124 : decode b_Md_looked 124 = .ok (.iload 4, 2) := by decide +kernel
theorem d_Md_looked_126 : decode b_Md_looked 126 = .ok (.ireturn, 1) := by decide +kernel
def l_Md_looked_33 (n : Nat)  (v1 : Int32)  : Nat → Int32 → Int32 → Int32 → Int32 → (Nat → Int32) → (Nat → Nat → Int32) → Option (Int32 × MU)
  | 0, _, _, _, _, _, _ => none
  | k + 1, v2, v3, v4, v5, I, R => (if (R 1 3) ≤ v5 then (if v1 = 0 then some ((-5), I, R) else some (v4, I, R)) else if ix (58 + v5) 890 then (p_Md_areHere n (R 1 (58 + v5).toNatClampNeg) v2 v3).bind fun x5 => (if x5 = 0 then (if v1 = 0 then some (v5, I, R) else some (v4, I, R)) else (p_Md_canGo n (R 1 (58 + v5).toNatClampNeg) v3 I R).bind fun (x9, I7, R8) => (if x9 = 0 then (if v1 = 0 then some (v5, I7, R8) else some (v4, I7, R8)) else (p_Md_minutesOf n (R 1 (58 + v5).toNatClampNeg) v3 I7 R8).bind fun (x13, I11, R12) => l_Md_looked_33 n v1 k (v2 ^^^ (R 1 (58 + v5).toNatClampNeg)) (1 - v3) (v4 + x13) (v5 + 1) I11 R12)) else none)
set_option maxHeartbeats 4000000 in
theorem wl_Md_looked_33  {p : Program} {l : Launch} {e : Env} {s : State} {m : MethodId} {args : Array Value} {below : List Frame} {meth : Method} {c : Code} {dC : Nat → ClassId} {dI : Nat → Nat → Nat} {ad : Nat → Nat} {cI cZ : ClassId} {A : Nat → Prop} {adK adV : Nat → Nat} (C : mC p s m args c b_Md_looked 7 dC dI cI cZ A adK adV) (hA : ∀ q, s.heap.size ≤ q → A q) (hr : meth.sig.returnType = some .int) (hlk : meth.locks = false) (n : Nat)  (v1 : Int32)  : ∀ (k : Nat) (v2 : Int32) (v3 : Int32) (v4 : Int32) (v5 : Int32) (I : Nat → Int32) (R : Nat → Nat → Int32) (z : Int32 × MU), l_Md_looked_33 n v1 k v2 v3 v4 v5 I R = some z → ∀ (ls : Array Slot), lv_has ls 7 [(0, .ref (ad 0)), (1, .int v1), (2, .int v2), (3, .int v3), (4, .int v4), (5, .int v5)] → ∀ (H : Heap) (locs : List Loc), mH A s.heap dC dI ad cI cZ I R H locs → W p l e (rL 10) s m args below meth c H locs 0 0 (mQi dC dI ad cI cZ A below args s z) (F0 m 33 ls []) := by
  obtain ⟨hx, hb, hml, hown, hT, -⟩ := id C
  intro k
  induction k with
  | zero => intro v2 v3 v4 v5 I R z hf; exact absurd hf (by unfold l_Md_looked_33; exact fun h9 => by cases h9)
  | succ k ih =>
    intro v2 v3 v4 v5 I R z hf ls hl H locs h
    unfold l_Md_looked_33 at hf
    refine lv_iload hx hb d_Md_looked_33 (lv_at hl 5 rfl) ?_
    refine lv_aload_n hx hb d_Md_looked_35 rfl (lv_at hl 0 rfl) ?_
    refine mg_1 C h d_Md_looked_36 ?_
    refine lv_iconst (v := 3) hx hb d_Md_looked_39 (by decide) ?_
    refine ma_1 C h (j := 3) (by decide) (show ix 3 890 by decide) d_Md_looked_40 ?_
    refine lv_icmp_ge (tgt := 115) hx hb d_Md_looked_41 (by decide) (fun hc => ?_) (fun hc => ?_)
    · have hf := op_t hc hf
      refine lv_iload_n hx hb d_Md_looked_115 rfl (lv_at hl 1 rfl) ?_
      refine lv_if_ne (tgt := 124) hx hb d_Md_looked_116 (by decide) (fun hc => ?_) (fun hc => ?_)
      · have hf := op_f hc hf
        refine lv_iload hx hb d_Md_looked_124 (lv_at hl 4 rfl) ?_
        exact rt_mi C h hr hlk hf rfl d_Md_looked_126
      · have hf := op_t hc hf
        refine lv_bipush (v := (-5)) hx hb d_Md_looked_119 (by decide) ?_
        refine lv_goto (tgt := 126) hx hb d_Md_looked_121 (by decide) ?_
        exact rt_mi C h hr hlk hf rfl d_Md_looked_126
    · have hf := op_f hc hf
      refine lv_aload_n hx hb d_Md_looked_44 rfl (lv_at hl 0 rfl) ?_
      refine mg_1 C h d_Md_looked_45 ?_
      refine lv_bipush (v := 58) hx hb d_Md_looked_48 (by decide) ?_
      refine lv_iload hx hb d_Md_looked_50 (lv_at hl 5 rfl) ?_
      refine lv_iadd hx hb d_Md_looked_52 ?_
      obtain ⟨h3, hf⟩ := op_if hf
      refine ma_1 C h rfl h3 d_Md_looked_53 ?_
      refine lv_istore (lv' := [(6, .int (R 1 (58 + v5).toNatClampNeg)), (0, .ref (ad 0)), (1, .int v1), (2, .int v2), (3, .int v3), (4, .int v4), (5, .int v5)]) hx hb d_Md_looked_54 hl (by decide) rfl (fun ls hl => ?_)
      refine lv_iload hx hb d_Md_looked_56 (lv_at hl 0 rfl) ?_
      refine lv_iload_n hx hb d_Md_looked_58 rfl (lv_at hl 3 rfl) ?_
      refine lv_iload_n hx hb d_Md_looked_59 rfl (lv_at hl 4 rfl) ?_
      obtain ⟨x5, hc4, hf⟩ := op_bind hf
      refine ks_i (rest := []) hx hb hml hown hT (c_Md_areHere l n (R 1 (58 + v5).toNatClampNeg) v2 v3 _ hc4) (cbW 3 hT cd_Md_areHere rfl rfl ini_Md ml_Md_173 hd_Md_areHere ⟨Nat.le_of_ble_eq_true rfl, Nat.le_of_ble_eq_true rfl⟩) sm_Md_areHere rfl hl.1 rfl (Nat.le_of_ble_eq_true rfl) d_Md_looked_60 ⟨Nat.zero_le _, Nat.zero_le _⟩ ?_
      refine lv_if_eq (tgt := 76) hx hb d_Md_looked_63 (by decide) (fun hc => ?_) (fun hc => ?_)
      · have hf := op_t hc hf
        refine lv_iload_n hx hb d_Md_looked_76 rfl (lv_at hl 2 rfl) ?_
        refine lv_if_ne (tgt := 85) hx hb d_Md_looked_77 (by decide) (fun hc => ?_) (fun hc => ?_)
        · have hf := op_f hc hf
          refine lv_iload hx hb d_Md_looked_85 (lv_at hl 5 rfl) ?_
          exact rt_mi C h hr hlk hf rfl d_Md_looked_87
        · have hf := op_t hc hf
          refine lv_iload hx hb d_Md_looked_80 (lv_at hl 6 rfl) ?_
          refine lv_goto (tgt := 87) hx hb d_Md_looked_82 (by decide) ?_
          exact rt_mi C h hr hlk hf rfl d_Md_looked_87
      · have hf := op_f hc hf
        refine lv_aload_n hx hb d_Md_looked_66 rfl (lv_at hl 1 rfl) ?_
        refine lv_iload hx hb d_Md_looked_67 (lv_at hl 0 rfl) ?_
        refine lv_iload_n hx hb d_Md_looked_69 rfl (lv_at hl 4 rfl) ?_
        obtain ⟨⟨x9, I7, R8⟩, hc6, hf⟩ := op_bind hf
        try dsimp only at hf
        refine kc_i (rest := []) C h hA (c_Md_canGo l n (R 1 (58 + v5).toNatClampNeg) v3 I R) hc6 (cbW 2 hT cd_Md_canGo rfl rfl ini_Md ml_Md_170 hd_Md_canGo ⟨Nat.le_of_ble_eq_true rfl, Nat.le_of_ble_eq_true rfl⟩) im_Md_canGo sp_Md_canGo rfl hl.1 rfl (Nat.le_of_ble_eq_true rfl) d_Md_looked_70 ⟨Nat.zero_le _, Nat.zero_le _⟩ (fun H locs h => ?_)
        refine lv_if_ne (tgt := 88) hx hb d_Md_looked_73 (by decide) (fun hc => ?_) (fun hc => ?_)
        · have hf := op_f hc hf
          refine lv_iload hx hb d_Md_looked_88 (lv_at hl 5 rfl) ?_
          refine lv_aload_n hx hb d_Md_looked_90 rfl (lv_at hl 1 rfl) ?_
          refine lv_iload hx hb d_Md_looked_91 (lv_at hl 0 rfl) ?_
          refine lv_iload_n hx hb d_Md_looked_93 rfl (lv_at hl 4 rfl) ?_
          obtain ⟨⟨x13, I11, R12⟩, hc10, hf⟩ := op_bind hf
          try dsimp only at hf
          refine kc_i (rest := [.int v4]) C h hA (c_Md_minutesOf l n (R 1 (58 + v5).toNatClampNeg) v3 I7 R8) hc10 (cbW 2 hT cd_Md_minutesOf rfl rfl ini_Md ml_Md_167 hd_Md_minutesOf ⟨Nat.le_of_ble_eq_true rfl, Nat.le_of_ble_eq_true rfl⟩) im_Md_minutesOf sp_Md_minutesOf rfl hl.1 rfl (Nat.le_of_ble_eq_true rfl) d_Md_looked_94 ⟨Nat.zero_le _, Nat.zero_le _⟩ (fun H locs h => ?_)
          refine lv_iadd hx hb d_Md_looked_97 ?_
          refine lv_istore (lv' := [(4, .int (v4 + x13)), (6, .int (R 1 (58 + v5).toNatClampNeg)), (0, .ref (ad 0)), (1, .int v1), (2, .int v2), (3, .int v3), (5, .int v5)]) hx hb d_Md_looked_98 hl (by decide) rfl (fun ls hl => ?_)
          refine lv_iload_n hx hb d_Md_looked_100 rfl (lv_at hl 4 rfl) ?_
          refine lv_iload hx hb d_Md_looked_101 (lv_at hl 1 rfl) ?_
          refine lv_ixor hx hb d_Md_looked_103 ?_
          refine lv_istore_n (lv' := [(2, .int (v2 ^^^ (R 1 (58 + v5).toNatClampNeg))), (4, .int (v4 + x13)), (6, .int (R 1 (58 + v5).toNatClampNeg)), (0, .ref (ad 0)), (1, .int v1), (3, .int v3), (5, .int v5)]) hx hb d_Md_looked_104 rfl hl (by decide) rfl (fun ls hl => ?_)
          refine lv_iconst (v := 1) hx hb d_Md_looked_105 (by decide) ?_
          refine lv_iload_n hx hb d_Md_looked_106 rfl (lv_at hl 5 rfl) ?_
          refine lv_isub hx hb d_Md_looked_107 ?_
          refine lv_istore_n (lv' := [(3, .int (1 - v3)), (2, .int (v2 ^^^ (R 1 (58 + v5).toNatClampNeg))), (4, .int (v4 + x13)), (6, .int (R 1 (58 + v5).toNatClampNeg)), (0, .ref (ad 0)), (1, .int v1), (5, .int v5)]) hx hb d_Md_looked_108 rfl hl (by decide) rfl (fun ls hl => ?_)
          refine lv_iinc (v := (v5 + 1)) (lv' := [(5, .int (v5 + 1)), (3, .int (1 - v3)), (2, .int (v2 ^^^ (R 1 (58 + v5).toNatClampNeg))), (4, .int (v4 + x13)), (6, .int (R 1 (58 + v5).toNatClampNeg)), (0, .ref (ad 0)), (1, .int v1)]) hx hb d_Md_looked_109 hl (k := 6) rfl rfl (by decide) rfl (fun ls hl => ?_)
          refine lv_goto (tgt := 33) hx hb d_Md_looked_112 (by decide) ?_
          exact ih (v2 ^^^ (R 1 (58 + v5).toNatClampNeg)) (1 - v3) (v4 + x13) (v5 + 1) I11 R12 _ hf ls (lv_sub hl [5, 6, 2, 1, 3, 0] rfl) H locs h
        · have hf := op_t hc hf
          refine lv_iload_n hx hb d_Md_looked_76 rfl (lv_at hl 2 rfl) ?_
          refine lv_if_ne (tgt := 85) hx hb d_Md_looked_77 (by decide) (fun hc => ?_) (fun hc => ?_)
          · have hf := op_f hc hf
            refine lv_iload hx hb d_Md_looked_85 (lv_at hl 5 rfl) ?_
            exact rt_mi C h hr hlk hf rfl d_Md_looked_87
          · have hf := op_t hc hf
            refine lv_iload hx hb d_Md_looked_80 (lv_at hl 6 rfl) ?_
            refine lv_goto (tgt := 87) hx hb d_Md_looked_82 (by decide) ?_
            exact rt_mi C h hr hlk hf rfl d_Md_looked_87
def p_Md_looked (n : Nat) (v1 : Int32) (I : Nat → Int32) (R : Nat → Nat → Int32) : Option (Int32 × MU) := (p_Md_in n v1 0 1).bind fun x2 => (if x2 = 0 then some ((-1), I, R) else l_Md_looked_33 n v1 n (R 1 9) (R 1 8) 0 0 I R)
set_option maxHeartbeats 4000000 in
theorem c_Md_looked (l : Launch) (n : Nat) (v1 : Int32) (I : Nat → Int32) (R : Nat → Nat → Int32)  : MMi l y_Md_looked b_Md_looked 7 .int (rL 10) (fun ad adK => [.int v1]) I R (p_Md_looked n v1 I R) := by
  refine en_mi (by decide) rfl (fun _ _ => Nat.le_of_ble_eq_true rfl) ?_
  intro z hf p e s m args below meth c dC dI ad cI cZ A adK adV ls C hA h hr hlk hl
  have hl : lv_has ls 7 [(0, .ref (ad 0)), (1, .int v1)] := hl
  unfold p_Md_looked at hf
  obtain ⟨hx, hb, hml, hown, hT, -⟩ := id C
  refine lv_iload_n hx hb d_Md_looked_0 rfl (lv_at hl 1 rfl) ?_
  refine lv_iconst (v := 0) hx hb d_Md_looked_1 (by decide) ?_
  refine lv_iconst (v := 1) hx hb d_Md_looked_2 (by decide) ?_
  obtain ⟨x2, hc1, hf⟩ := op_bind hf
  refine ks_i (rest := []) hx hb hml hown hT (c_Md_in l n v1 0 1 _ hc1) (cbW 3 hT cd_Md_in rfl rfl ini_Md ml_Md_44 hd_Md_in ⟨Nat.le_of_ble_eq_true rfl, Nat.le_of_ble_eq_true rfl⟩) sm_Md_in rfl hl.1 rfl (Nat.le_of_ble_eq_true rfl) d_Md_looked_3 ⟨Nat.zero_le _, Nat.zero_le _⟩ ?_
  refine lv_if_ne (tgt := 11) hx hb d_Md_looked_6 (by decide) (fun hc => ?_) (fun hc => ?_)
  · have hf := op_f hc hf
    refine lv_aload_n hx hb d_Md_looked_11 rfl (lv_at hl 0 rfl) ?_
    refine mg_1 C h d_Md_looked_12 ?_
    refine lv_bipush (v := 9) hx hb d_Md_looked_15 (by decide) ?_
    refine ma_1 C h (j := 9) (by decide) (show ix 9 890 by decide) d_Md_looked_17 ?_
    refine lv_istore_n (lv' := [(2, .int (R 1 9)), (0, .ref (ad 0)), (1, .int v1)]) hx hb d_Md_looked_18 rfl hl (by decide) rfl (fun ls hl => ?_)
    refine lv_aload_n hx hb d_Md_looked_19 rfl (lv_at hl 1 rfl) ?_
    refine mg_1 C h d_Md_looked_20 ?_
    refine lv_bipush (v := 8) hx hb d_Md_looked_23 (by decide) ?_
    refine ma_1 C h (j := 8) (by decide) (show ix 8 890 by decide) d_Md_looked_25 ?_
    refine lv_istore_n (lv' := [(3, .int (R 1 8)), (2, .int (R 1 9)), (0, .ref (ad 0)), (1, .int v1)]) hx hb d_Md_looked_26 rfl hl (by decide) rfl (fun ls hl => ?_)
    refine lv_iconst (v := 0) hx hb d_Md_looked_27 (by decide) ?_
    refine lv_istore (lv' := [(4, .int 0), (3, .int (R 1 8)), (2, .int (R 1 9)), (0, .ref (ad 0)), (1, .int v1)]) hx hb d_Md_looked_28 hl (by decide) rfl (fun ls hl => ?_)
    refine lv_iconst (v := 0) hx hb d_Md_looked_30 (by decide) ?_
    refine lv_istore (lv' := [(5, .int 0), (4, .int 0), (3, .int (R 1 8)), (2, .int (R 1 9)), (0, .ref (ad 0)), (1, .int v1)]) hx hb d_Md_looked_31 hl (by decide) rfl (fun ls hl => ?_)
    exact wl_Md_looked_33 C hA hr hlk n v1 n (R 1 9) (R 1 8) 0 0 I R _ hf ls (lv_sub hl [4, 5, 3, 2, 1, 0] rfl) s.heap [] h
  · have hf := op_t hc hf
    refine lv_iconst (v := (-1)) hx hb d_Md_looked_9 (by decide) ?_
    exact rt_mi C h hr hlk hf rfl d_Md_looked_10
theorem hd_Md_plainTells : y_Md_plainTells.cls ≠ "java/lang/invoke/MethodHandle" ∧ y_Md_plainTells.cls ≠ "java/lang/invoke/VarHandle" ∧ (parseMethodDescriptor y_Md_plainTells.desc).map (fun d => d.parameters.length) = some 1 := by decide +kernel
theorem d_Md_plainTells_0 : decode b_Md_plainTells 0 = .ok (.aload_n 0, 1) := by decide +kernel
theorem d_Md_plainTells_1 : decode b_Md_plainTells 1 = .ok (.iconst 3, 1) := by decide +kernel
theorem d_Md_plainTells_2 : decode b_Md_plainTells 2 = .ok (.invokevirtual 247, 3) := by decide +kernel
theorem d_Md_plainTells_5 : decode b_Md_plainTells 5 = .ok (.aload_n 0, 1) := by decide +kernel
theorem d_Md_plainTells_6 : decode b_Md_plainTells 6 = .ok (.iload_n 1, 1) := by decide +kernel
theorem d_Md_plainTells_7 : decode b_Md_plainTells 7 = .ok (.invokevirtual 271, 3) := by decide +kernel
theorem d_Md_plainTells_10 : decode b_Md_plainTells 10 = .ok (.iconst 2, 1) := by decide +kernel
theorem d_Md_plainTells_11 : decode b_Md_plainTells 11 = .ok (.imul, 1) := by decide +kernel
theorem d_Md_plainTells_12 : decode b_Md_plainTells 12 = .ok (.ireturn, 1) := by decide +kernel
def p_Md_plainTells (n : Nat) (v1 : Int32) (I : Nat → Int32) (R : Nat → Nat → Int32) : Option (Int32 × MU) := (p_Md_ranBody n 3 I R).bind fun (I2, R3) => (p_Md_waitsActs n v1 I2 R3).bind fun (x7, I5, R6) => some ((x7 * 2), I5, R6)
set_option maxHeartbeats 4000000 in
theorem c_Md_plainTells (l : Launch) (n : Nat) (v1 : Int32) (I : Nat → Int32) (R : Nat → Nat → Int32)  : MMi l y_Md_plainTells b_Md_plainTells 2 .int (rL 10) (fun ad adK => [.int v1]) I R (p_Md_plainTells n v1 I R) := by
  refine en_mi (by decide) rfl (fun _ _ => Nat.le_of_ble_eq_true rfl) ?_
  intro z hf p e s m args below meth c dC dI ad cI cZ A adK adV ls C hA h hr hlk hl
  have hl : lv_has ls 2 [(0, .ref (ad 0)), (1, .int v1)] := hl
  unfold p_Md_plainTells at hf
  obtain ⟨hx, hb, hml, hown, hT, -⟩ := id C
  refine lv_aload_n hx hb d_Md_plainTells_0 rfl (lv_at hl 0 rfl) ?_
  refine lv_iconst (v := 3) hx hb d_Md_plainTells_1 (by decide) ?_
  obtain ⟨⟨I2, R3⟩, hc1, hf⟩ := op_bind hf
  try dsimp only at hf
  refine kc_v (rest := []) C h hA (c_Md_ranBody l n 3 I R) hc1 (cbW 1 hT cd_Md_ranBody rfl rfl ini_Md ml_Md_247 hd_Md_ranBody ⟨Nat.le_of_ble_eq_true rfl, Nat.le_of_ble_eq_true rfl⟩) im_Md_ranBody sp_Md_ranBody rfl hl.1 rfl (Nat.le_of_ble_eq_true rfl) d_Md_plainTells_2 ⟨Nat.zero_le _, Nat.zero_le _⟩ (fun H locs h => ?_)
  refine lv_aload_n hx hb d_Md_plainTells_5 rfl (lv_at hl 0 rfl) ?_
  refine lv_iload_n hx hb d_Md_plainTells_6 rfl (lv_at hl 1 rfl) ?_
  obtain ⟨⟨x7, I5, R6⟩, hc4, hf⟩ := op_bind hf
  try dsimp only at hf
  refine kc_i (rest := []) C h hA (c_Md_waitsActs l n v1 I2 R3) hc4 (cbW 1 hT cd_Md_waitsActs rfl rfl ini_Md ml_Md_271 hd_Md_waitsActs ⟨Nat.le_of_ble_eq_true rfl, Nat.le_of_ble_eq_true rfl⟩) im_Md_waitsActs sp_Md_waitsActs rfl hl.1 rfl (Nat.le_of_ble_eq_true rfl) d_Md_plainTells_7 ⟨Nat.zero_le _, Nat.zero_le _⟩ (fun H locs h => ?_)
  refine lv_iconst (v := 2) hx hb d_Md_plainTells_10 (by decide) ?_
  refine lv_imul hx hb d_Md_plainTells_11 ?_
  exact rt_mi C h hr hlk hf rfl d_Md_plainTells_12
theorem hd_Md_leastFrom : y_Md_leastFrom.cls ≠ "java/lang/invoke/MethodHandle" ∧ y_Md_leastFrom.cls ≠ "java/lang/invoke/VarHandle" ∧ (parseMethodDescriptor y_Md_leastFrom.desc).map (fun d => d.parameters.length) = some 3 := by decide +kernel
theorem d_Md_leastFrom_0 : decode b_Md_leastFrom 0 = .ok (.aload_n 0, 1) := by decide +kernel
theorem d_Md_leastFrom_1 : decode b_Md_leastFrom 1 = .ok (.iload_n 3, 1) := by decide +kernel
theorem d_Md_leastFrom_2 : decode b_Md_leastFrom 2 = .ok (.invokevirtual 180, 3) := by decide +kernel
theorem d_Md_leastFrom_5 : decode b_Md_leastFrom 5 = .ok (.aload_n 0, 1) := by decide +kernel
theorem d_Md_leastFrom_6 : decode b_Md_leastFrom 6 = .ok (.iload_n 1, 1) := by decide +kernel
theorem d_Md_leastFrom_7 : decode b_Md_leastFrom 7 = .ok (.invokevirtual 183, 3) := by decide +kernel
theorem d_Md_leastFrom_10 : decode b_Md_leastFrom 10 = .ok (.aload_n 0, 1) := by decide +kernel
theorem d_Md_leastFrom_11 : decode b_Md_leastFrom 11 = .ok (.iload_n 2, 1) := by decide +kernel
theorem d_Md_leastFrom_12 : decode b_Md_leastFrom 12 = .ok (.aload_n 0, 1) := by decide +kernel
theorem d_Md_leastFrom_13 : decode b_Md_leastFrom 13 = .ok (.getfield 28, 3) := by decide +kernel
theorem d_Md_leastFrom_16 : decode b_Md_leastFrom 16 = .ok (.invokevirtual 186, 3) := by decide +kernel
theorem d_Md_leastFrom_19 : decode b_Md_leastFrom 19 = .ok (.ireturn, 1) := by decide +kernel
def p_Md_leastFrom (n : Nat) (v1 : Int32) (v2 : Int32) (v3 : Int32) (I : Nat → Int32) (R : Nat → Nat → Int32) : Option (Int32 × MU) := (p_Md_looksForCosts n v3 I R).bind fun (I2, R3) => (p_Md_looksFrom n v1 I2 R3).bind fun (I5, R6) => (p_Md_leastOf_ad14 n v2 I5 R6).bind fun x8 => some (x8, I5, R6)
set_option maxHeartbeats 4000000 in
theorem c_Md_leastFrom (l : Launch) (n : Nat) (v1 : Int32) (v2 : Int32) (v3 : Int32) (I : Nat → Int32) (R : Nat → Nat → Int32)  : MMi l y_Md_leastFrom b_Md_leastFrom 4 .int (rL 11) (fun ad adK => [.int v1, .int v2, .int v3]) I R (p_Md_leastFrom n v1 v2 v3 I R) := by
  refine en_mi (by decide) rfl (fun _ _ => Nat.le_of_ble_eq_true rfl) ?_
  intro z hf p e s m args below meth c dC dI ad cI cZ A adK adV ls C hA h hr hlk hl
  have hl : lv_has ls 4 [(0, .ref (ad 0)), (1, .int v1), (2, .int v2), (3, .int v3)] := hl
  unfold p_Md_leastFrom at hf
  obtain ⟨hx, hb, hml, hown, hT, -⟩ := id C
  refine lv_aload_n hx hb d_Md_leastFrom_0 rfl (lv_at hl 0 rfl) ?_
  refine lv_iload_n hx hb d_Md_leastFrom_1 rfl (lv_at hl 3 rfl) ?_
  obtain ⟨⟨I2, R3⟩, hc1, hf⟩ := op_bind hf
  try dsimp only at hf
  refine kc_v (rest := []) C h hA (c_Md_looksForCosts l n v3 I R) hc1 (cbW 1 hT cd_Md_looksForCosts rfl rfl ini_Md ml_Md_180 hd_Md_looksForCosts ⟨Nat.le_of_ble_eq_true rfl, Nat.le_of_ble_eq_true rfl⟩) im_Md_looksForCosts sp_Md_looksForCosts rfl hl.1 rfl (Nat.le_of_ble_eq_true rfl) d_Md_leastFrom_2 ⟨Nat.zero_le _, Nat.zero_le _⟩ (fun H locs h => ?_)
  refine lv_aload_n hx hb d_Md_leastFrom_5 rfl (lv_at hl 0 rfl) ?_
  refine lv_iload_n hx hb d_Md_leastFrom_6 rfl (lv_at hl 1 rfl) ?_
  obtain ⟨⟨I5, R6⟩, hc4, hf⟩ := op_bind hf
  try dsimp only at hf
  refine kc_v (rest := []) C h hA (c_Md_looksFrom l n v1 I2 R3) hc4 (cbW 1 hT cd_Md_looksFrom rfl rfl ini_Md ml_Md_183 hd_Md_looksFrom ⟨Nat.le_of_ble_eq_true rfl, Nat.le_of_ble_eq_true rfl⟩) im_Md_looksFrom sp_Md_looksFrom rfl hl.1 rfl (Nat.le_of_ble_eq_true rfl) d_Md_leastFrom_7 ⟨Nat.zero_le _, Nat.zero_le _⟩ (fun H locs h => ?_)
  refine lv_aload_n hx hb d_Md_leastFrom_10 rfl (lv_at hl 0 rfl) ?_
  refine lv_iload_n hx hb d_Md_leastFrom_11 rfl (lv_at hl 2 rfl) ?_
  refine lv_aload_n hx hb d_Md_leastFrom_12 rfl (lv_at hl 0 rfl) ?_
  refine mg_14 C h d_Md_leastFrom_13 ?_
  obtain ⟨x8, hc7, hf⟩ := op_bind hf
  refine kc_r (rest := []) C h hA (c_Md_leastOf_ad14 l n v2 I5 R6) hc7 (cbW 2 hT cd_Md_leastOf rfl rfl ini_Md ml_Md_186 hd_Md_leastOf ⟨Nat.le_of_ble_eq_true rfl, Nat.le_of_ble_eq_true rfl⟩) im_Md_leastOf sp_Md_leastOf rfl hl.1 rfl (Nat.le_of_ble_eq_true rfl) d_Md_leastFrom_16 ⟨Nat.zero_le _, Nat.zero_le _⟩ (fun H locs h => ?_)
  exact rt_mi C h hr hlk hf rfl d_Md_leastFrom_19
theorem hd_Md_fewest : y_Md_fewest.cls ≠ "java/lang/invoke/MethodHandle" ∧ y_Md_fewest.cls ≠ "java/lang/invoke/VarHandle" ∧ (parseMethodDescriptor y_Md_fewest.desc).map (fun d => d.parameters.length) = some 1 := by decide +kernel
theorem d_Md_fewest_0 : decode b_Md_fewest 0 = .ok (.aload_n 0, 1) := by decide +kernel
theorem d_Md_fewest_1 : decode b_Md_fewest 1 = .ok (.iload_n 1, 1) := by decide +kernel
theorem d_Md_fewest_2 : decode b_Md_fewest 2 = .ok (.invokevirtual 164, 3) := by decide +kernel
theorem d_Md_fewest_5 : decode b_Md_fewest 5 = .ok (.ifCond .ne 6, 3) := by decide +kernel
theorem d_Md_fewest_8 : decode b_Md_fewest 8 = .ok (.bipush (-2), 2) := by decide +kernel
theorem d_Md_fewest_10 : decode b_Md_fewest 10 = .ok (.ireturn, 1) := by decide +kernel
theorem d_Md_fewest_11 : decode b_Md_fewest 11 = .ok (.aload_n 0, 1) := by decide +kernel
theorem d_Md_fewest_12 : decode b_Md_fewest 12 = .ok (.iconst (-1), 1) := by decide +kernel
theorem d_Md_fewest_13 : decode b_Md_fewest 13 = .ok (.invokevirtual 180, 3) := by decide +kernel
theorem d_Md_fewest_16 : decode b_Md_fewest 16 = .ok (.aload_n 0, 1) := by decide +kernel
theorem d_Md_fewest_17 : decode b_Md_fewest 17 = .ok (.aload_n 0, 1) := by decide +kernel
theorem d_Md_fewest_18 : decode b_Md_fewest 18 = .ok (.invokevirtual 190, 3) := by decide +kernel
theorem d_Md_fewest_21 : decode b_Md_fewest 21 = .ok (.invokevirtual 183, 3) := by decide +kernel
theorem d_Md_fewest_24 : decode b_Md_fewest 24 = .ok (.aload_n 0, 1) := by decide +kernel
theorem d_Md_fewest_25 : decode b_Md_fewest 25 = .ok (.iload_n 1, 1) := by decide +kernel
theorem d_Md_fewest_26 : decode b_Md_fewest 26 = .ok (.aload_n 0, 1) := by decide +kernel
theorem d_Md_fewest_27 : decode b_Md_fewest 27 = .ok (.getfield 31, 3) := by decide +kernel
theorem d_Md_fewest_30 : decode b_Md_fewest 30 = .ok (.invokevirtual 186, 3) := by decide +kernel
theorem d_Md_fewest_33 : decode b_Md_fewest 33 = .ok (.invokestatic 196, 3) := by decide +kernel
theorem d_Md_fewest_36 : decode b_Md_fewest 36 = .ok (.ireturn, 1) := by decide +kernel
def p_Md_fewest (n : Nat) (v1 : Int32) (I : Nat → Int32) (R : Nat → Nat → Int32) : Option (Int32 × MU) := (p_Md_isSet n v1 I R).bind fun x2 => (if x2 = 0 then some ((-2), I, R) else (p_Md_looksForCosts n (-1) I R).bind fun (I4, R5) => (p_Md_now n I4 R5).bind fun x7 => (p_Md_looksFrom n x7 I4 R5).bind fun (I9, R10) => (p_Md_leastOf_ad15 n v1 I9 R10).bind fun x12 => (p_Md_orNone n x12).bind fun x14 => some (x14, I9, R10))
set_option maxHeartbeats 4000000 in
theorem c_Md_fewest (l : Launch) (n : Nat) (v1 : Int32) (I : Nat → Int32) (R : Nat → Nat → Int32)  : MMi l y_Md_fewest b_Md_fewest 2 .int (rL 11) (fun ad adK => [.int v1]) I R (p_Md_fewest n v1 I R) := by
  refine en_mi (by decide) rfl (fun _ _ => Nat.le_of_ble_eq_true rfl) ?_
  intro z hf p e s m args below meth c dC dI ad cI cZ A adK adV ls C hA h hr hlk hl
  have hl : lv_has ls 2 [(0, .ref (ad 0)), (1, .int v1)] := hl
  unfold p_Md_fewest at hf
  obtain ⟨hx, hb, hml, hown, hT, -⟩ := id C
  refine lv_aload_n hx hb d_Md_fewest_0 rfl (lv_at hl 0 rfl) ?_
  refine lv_iload_n hx hb d_Md_fewest_1 rfl (lv_at hl 1 rfl) ?_
  obtain ⟨x2, hc1, hf⟩ := op_bind hf
  refine kc_r (rest := []) C h hA (c_Md_isSet l n v1 I R) hc1 (cbW 1 hT cd_Md_isSet rfl rfl ini_Md ml_Md_164 hd_Md_isSet ⟨Nat.le_of_ble_eq_true rfl, Nat.le_of_ble_eq_true rfl⟩) im_Md_isSet sp_Md_isSet rfl hl.1 rfl (Nat.le_of_ble_eq_true rfl) d_Md_fewest_2 ⟨Nat.zero_le _, Nat.zero_le _⟩ (fun H locs h => ?_)
  refine lv_if_ne (tgt := 11) hx hb d_Md_fewest_5 (by decide) (fun hc => ?_) (fun hc => ?_)
  · have hf := op_f hc hf
    refine lv_aload_n hx hb d_Md_fewest_11 rfl (lv_at hl 0 rfl) ?_
    refine lv_iconst (v := (-1)) hx hb d_Md_fewest_12 (by decide) ?_
    obtain ⟨⟨I4, R5⟩, hc3, hf⟩ := op_bind hf
    try dsimp only at hf
    refine kc_v (rest := []) C h hA (c_Md_looksForCosts l n (-1) I R) hc3 (cbW 1 hT cd_Md_looksForCosts rfl rfl ini_Md ml_Md_180 hd_Md_looksForCosts ⟨Nat.le_of_ble_eq_true rfl, Nat.le_of_ble_eq_true rfl⟩) im_Md_looksForCosts sp_Md_looksForCosts rfl hl.1 rfl (Nat.le_of_ble_eq_true rfl) d_Md_fewest_13 ⟨Nat.zero_le _, Nat.zero_le _⟩ (fun H locs h => ?_)
    refine lv_aload_n hx hb d_Md_fewest_16 rfl (lv_at hl 0 rfl) ?_
    refine lv_aload_n hx hb d_Md_fewest_17 rfl (lv_at hl 0 rfl) ?_
    obtain ⟨x7, hc6, hf⟩ := op_bind hf
    refine kc_r (rest := [.ref (ad 0)]) C h hA (c_Md_now l n I4 R5) hc6 (cbW 0 hT cd_Md_now rfl rfl ini_Md ml_Md_190 hd_Md_now ⟨Nat.le_of_ble_eq_true rfl, Nat.le_of_ble_eq_true rfl⟩) im_Md_now sp_Md_now rfl hl.1 rfl (Nat.le_of_ble_eq_true rfl) d_Md_fewest_18 ⟨Nat.zero_le _, Nat.zero_le _⟩ (fun H locs h => ?_)
    obtain ⟨⟨I9, R10⟩, hc8, hf⟩ := op_bind hf
    try dsimp only at hf
    refine kc_v (rest := []) C h hA (c_Md_looksFrom l n x7 I4 R5) hc8 (cbW 1 hT cd_Md_looksFrom rfl rfl ini_Md ml_Md_183 hd_Md_looksFrom ⟨Nat.le_of_ble_eq_true rfl, Nat.le_of_ble_eq_true rfl⟩) im_Md_looksFrom sp_Md_looksFrom rfl hl.1 rfl (Nat.le_of_ble_eq_true rfl) d_Md_fewest_21 ⟨Nat.zero_le _, Nat.zero_le _⟩ (fun H locs h => ?_)
    refine lv_aload_n hx hb d_Md_fewest_24 rfl (lv_at hl 0 rfl) ?_
    refine lv_iload_n hx hb d_Md_fewest_25 rfl (lv_at hl 1 rfl) ?_
    refine lv_aload_n hx hb d_Md_fewest_26 rfl (lv_at hl 0 rfl) ?_
    refine mg_15 C h d_Md_fewest_27 ?_
    obtain ⟨x12, hc11, hf⟩ := op_bind hf
    refine kc_r (rest := []) C h hA (c_Md_leastOf_ad15 l n v1 I9 R10) hc11 (cbW 2 hT cd_Md_leastOf rfl rfl ini_Md ml_Md_186 hd_Md_leastOf ⟨Nat.le_of_ble_eq_true rfl, Nat.le_of_ble_eq_true rfl⟩) im_Md_leastOf sp_Md_leastOf rfl hl.1 rfl (Nat.le_of_ble_eq_true rfl) d_Md_fewest_30 ⟨Nat.zero_le _, Nat.zero_le _⟩ (fun H locs h => ?_)
    obtain ⟨x14, hc13, hf⟩ := op_bind hf
    refine ks_i (rest := []) hx hb hml hown hT (c_Md_orNone l n x12 _ hc13) (cbW 1 hT cd_Md_orNone rfl rfl ini_Md ml_Md_196 hd_Md_orNone ⟨Nat.le_of_ble_eq_true rfl, Nat.le_of_ble_eq_true rfl⟩) sm_Md_orNone rfl hl.1 rfl (Nat.le_of_ble_eq_true rfl) d_Md_fewest_33 ⟨Nat.zero_le _, Nat.zero_le _⟩ ?_
    exact rt_mi C h hr hlk hf rfl d_Md_fewest_36
  · have hf := op_t hc hf
    refine lv_bipush (v := (-2)) hx hb d_Md_fewest_8 (by decide) ?_
    exact rt_mi C h hr hlk hf rfl d_Md_fewest_10
theorem hd_Md_by : y_Md_by.cls ≠ "java/lang/invoke/MethodHandle" ∧ y_Md_by.cls ≠ "java/lang/invoke/VarHandle" ∧ (parseMethodDescriptor y_Md_by.desc).map (fun d => d.parameters.length) = some 2 := by decide +kernel
theorem d_Md_by_0 : decode b_Md_by 0 = .ok (.iload_n 2, 1) := by decide +kernel
theorem d_Md_by_1 : decode b_Md_by 1 = .ok (.iconst 0, 1) := by decide +kernel
theorem d_Md_by_2 : decode b_Md_by 2 = .ok (.iconst 1, 1) := by decide +kernel
theorem d_Md_by_3 : decode b_Md_by 3 = .ok (.invokestatic 44, 3) := by decide +kernel
theorem d_Md_by_6 : decode b_Md_by 6 = .ok (.ifCond .ne 5, 3) := by decide +kernel
theorem d_Md_by_9 : decode b_Md_by 9 = .ok (.iconst (-1), 1) := by decide +kernel
theorem d_Md_by_10 : decode b_Md_by 10 = .ok (.ireturn, 1) := by decide +kernel
theorem d_Md_by_11 : decode b_Md_by 11 = .ok (.iload_n 1, 1) := by decide +kernel
theorem d_Md_by_12 : decode b_Md_by 12 = .ok (.iconst 0, 1) := by decide +kernel
theorem d_Md_by_13 : decode b_Md_by 13 = .ok (.sipush 999, 3) := by decide +kernel
theorem d_Md_by_16 : decode b_Md_by 16 = .ok (.invokestatic 44, 3) := by decide +kernel
theorem d_Md_by_19 : decode b_Md_by 19 = .ok (.ifCond .ne 6, 3) := by decide +kernel
theorem d_Md_by_22 : decode b_Md_by 22 = .ok (.bipush (-2), 2) := by decide +kernel
theorem d_Md_by_24 : decode b_Md_by 24 = .ok (.ireturn, 1) := by decide +kernel
theorem d_Md_by_25 : decode b_Md_by 25 = .ok (.aload_n 0, 1) := by decide +kernel
theorem d_Md_by_26 : decode b_Md_by 26 = .ok (.iconst (-1), 1) := by decide +kernel
theorem d_Md_by_27 : decode b_Md_by 27 = .ok (.invokevirtual 180, 3) := by decide +kernel
theorem d_Md_by_30 : decode b_Md_by 30 = .ok (.aload_n 0, 1) := by decide +kernel
theorem d_Md_by_31 : decode b_Md_by 31 = .ok (.aload_n 0, 1) := by decide +kernel
theorem d_Md_by_32 : decode b_Md_by 32 = .ok (.invokevirtual 190, 3) := by decide +kernel
theorem d_Md_by_35 : decode b_Md_by 35 = .ok (.invokevirtual 183, 3) := by decide +kernel
theorem d_Md_by_38 : decode b_Md_by 38 = .ok (.iconst (-1), 1) := by decide +kernel
theorem d_Md_by_39 : decode b_Md_by 39 = .ok (.istore_n 3, 1) := by decide +kernel
theorem d_Md_by_40 : decode b_Md_by 40 = .ok (.iconst 0, 1) := by decide +kernel
theorem d_Md_by_41 : decode b_Md_by 41 = .ok (.istore 4, 2) := by decide +kernel
theorem d_Md_by_43 : decode b_Md_by 43 = .ok (.iload 4, 2) := by decide +kernel
theorem d_Md_by_45 : decode b_Md_by 45 = .ok (.bipush 64, 2) := by decide +kernel
theorem d_Md_by_47 : decode b_Md_by 47 = .ok (.if_icmp .ge 70, 3) := by decide +kernel
theorem d_Md_by_50 : decode b_Md_by 50 = .ok (.aload_n 0, 1) := by decide +kernel
theorem d_Md_by_51 : decode b_Md_by 51 = .ok (.getfield 28, 3) := by decide +kernel
theorem d_Md_by_54 : decode b_Md_by 54 = .ok (.iload 4, 2) := by decide +kernel
theorem d_Md_by_56 : decode b_Md_by 56 = .ok (.iaload, 1) := by decide +kernel
theorem d_Md_by_57 : decode b_Md_by 57 = .ok (.iload_n 1, 1) := by decide +kernel
theorem d_Md_by_58 : decode b_Md_by 58 = .ok (.if_icmp .le 17, 3) := by decide +kernel
theorem d_Md_by_61 : decode b_Md_by 61 = .ok (.aload_n 0, 1) := by decide +kernel
theorem d_Md_by_62 : decode b_Md_by 62 = .ok (.getfield 28, 3) := by decide +kernel
theorem d_Md_by_65 : decode b_Md_by 65 = .ok (.bipush 64, 2) := by decide +kernel
theorem d_Md_by_67 : decode b_Md_by 67 = .ok (.iload 4, 2) := by decide +kernel
theorem d_Md_by_69 : decode b_Md_by 69 = .ok (.iadd, 1) := by decide +kernel
theorem d_Md_by_70 : decode b_Md_by 70 = .ok (.iaload, 1) := by decide +kernel
theorem d_Md_by_71 : decode b_Md_by 71 = .ok (.iload_n 1, 1) := by decide +kernel
theorem d_Md_by_72 : decode b_Md_by 72 = .ok (.if_icmp .gt 7, 3) := by decide +kernel
theorem d_Md_by_75 : decode b_Md_by 75 = .ok (.iconst 1, 1) := by decide +kernel
theorem d_Md_by_76 : decode b_Md_by 76 = .ok (.goto 4, 3) := by decide +kernel
theorem d_Md_by_79 : decode b_Md_by 79 = .ok (.iconst 0, 1) := by decide +kernel
theorem d_Md_by_80 : decode b_Md_by 80 = .ok (.istore 5, 2) := by decide +kernel
theorem d_Md_by_82 : decode b_Md_by 82 = .ok (.iload 5, 2) := by decide +kernel
theorem d_Md_by_84 : decode b_Md_by 84 = .ok (.ifCond .eq 25, 3) := by decide +kernel
theorem d_Md_by_87 : decode b_Md_by 87 = .ok (.iload_n 3, 1) := by decide +kernel
theorem d_Md_by_88 : decode b_Md_by 88 = .ok (.iconst (-1), 1) := by decide +kernel
theorem d_Md_by_89 : decode b_Md_by 89 = .ok (.if_icmp .eq 15, 3) := by decide +kernel
theorem d_Md_by_92 : decode b_Md_by 92 = .ok (.iload 4, 2) := by decide +kernel
theorem d_Md_by_94 : decode b_Md_by 94 = .ok (.invokestatic 139, 3) := by decide +kernel
theorem d_Md_by_97 : decode b_Md_by 97 = .ok (.iload_n 3, 1) := by decide +kernel
theorem d_Md_by_98 : decode b_Md_by 98 = .ok (.invokestatic 139, 3) := by decide +kernel
theorem d_Md_by_101 : decode b_Md_by 101 = .ok (.if_icmp .le 8, 3) := by decide +kernel
theorem d_Md_by_104 : decode b_Md_by 104 = .ok (.iload 4, 2) := by decide +kernel
theorem d_Md_by_106 : decode b_Md_by 106 = .ok (.goto 4, 3) := by decide +kernel
theorem d_Md_by_109 : decode b_Md_by 109 = .ok (.iload_n 3, 1) := by decide +kernel
theorem d_Md_by_110 : decode b_Md_by 110 = .ok (.istore_n 3, 1) := by decide +kernel
theorem d_Md_by_111 : decode b_Md_by 111 = .ok (.iinc 4 1, 3) := by decide +kernel
theorem d_Md_by_114 : decode b_Md_by 114 = .ok (.goto (-71), 3) := by decide +kernel
theorem d_Md_by_117 : decode b_Md_by 117 = .ok (.iload_n 2, 1) := by decide +kernel
theorem d_Md_by_118 : decode b_Md_by 118 = .ok (.ifCond .ne 10, 3) := by decide +kernel
theorem d_Md_by_121 : decode b_Md_by 121 = .ok (.iload_n 3, 1) := by decide +kernel
theorem d_Md_by_122 : decode b_Md_by 122 = .ok (.invokestatic 139, 3) := by decide +kernel
theorem d_Md_by_125 : decode b_Md_by 125 = .ok (.goto 4, 3) := by decide +kernel
theorem d_Md_by_128 : decode b_Md_by 128 = .ok (.iload_n 3, 1) := by decide +kernel
theorem d_Md_by_129 : decode b_Md_by 129 = .ok (.ireturn, 1) := by decide +kernel
def l_Md_by_43 (n : Nat)  (v1 : Int32) (v2 : Int32) (I : Nat → Int32) (R : Nat → Nat → Int32) : Nat → Int32 → Int32 → Option (Int32)
  | 0, _, _ => none
  | k + 1, v3, v4 => (if 64 ≤ v4 then some v3 else if ix v4 128 then (if (R 14 v4.toNatClampNeg) ≤ v1 then some 1 else if ix (64 + v4) 128 then (if v1 < (R 14 (64 + v4).toNatClampNeg) then some 0 else some 1) else none : Option (Int32)).bind fun x15 => (if x15 = 0 then some v3 else (if v3 = (-1) then some v4 else (p_Md_count1 n v4).bind fun x20 => (p_Md_count1 n v3).bind fun x22 => (if x20 ≤ x22 then some v3 else some v4)) : Option (Int32)).bind fun x18 => l_Md_by_43 n v1 v2 I R k x18 (v4 + 1) else none)
set_option maxHeartbeats 4000000 in
theorem wl_Md_by_43 {Q : State → Prop}  {p : Program} {l : Launch} {e : Env} {s : State} {m : MethodId} {args : Array Value} {below : List Frame} {meth : Method} {c : Code} {dC : Nat → ClassId} {dI : Nat → Nat → Nat} {ad : Nat → Nat} {cI cZ : ClassId} {A : Nat → Prop} {adK adV : Nat → Nat} (C : mC p s m args c b_Md_by 6 dC dI cI cZ A adK adV) (hA : ∀ q, s.heap.size ≤ q → A q) (hr : meth.sig.returnType = some .int) (hlk : meth.locks = false) (n : Nat)  (v1 : Int32) (v2 : Int32) (I : Nat → Int32) (R : Nat → Nat → Int32) : ∀ (k : Nat) (v3 : Int32) (v4 : Int32) (r0 : Int32), l_Md_by_43 n v1 v2 I R k v3 v4 = some r0 → (∀ (ls : Array Slot), lv_has ls 6 [(2, .int v2), (3, .int r0)] → ∀ (H : Heap) (locs : List Loc), mH A s.heap dC dI ad cI cZ I R H locs → W p l e (rL 11) s m args below meth c H locs 0 0 Q (F0 m 117 ls [])) → ∀ (ls : Array Slot), lv_has ls 6 [(0, .ref (ad 0)), (1, .int v1), (2, .int v2), (3, .int v3), (4, .int v4)] → ∀ (H : Heap) (locs : List Loc), mH A s.heap dC dI ad cI cZ I R H locs → W p l e (rL 11) s m args below meth c H locs 0 0 Q (F0 m 43 ls []) := by
  obtain ⟨hx, hb, hml, hown, hT, -⟩ := id C
  intro k
  induction k with
  | zero => intro v3 v4 r0 hf; exact absurd hf (by unfold l_Md_by_43; exact fun h9 => by cases h9)
  | succ k ih =>
    intro v3 v4 r0 hf K ls hl H locs h
    unfold l_Md_by_43 at hf
    refine lv_iload hx hb d_Md_by_43 (lv_at hl 4 rfl) ?_
    refine lv_bipush (v := 64) hx hb d_Md_by_45 (by decide) ?_
    refine lv_icmp_ge (tgt := 117) hx hb d_Md_by_47 (by decide) (fun hc => ?_) (fun hc => ?_)
    · have hf := op_t hc hf
      obtain rfl := op_i1 hf
      exact K ls (lv_sub hl [2, 3] rfl) H locs h
    · have hf := op_f hc hf
      refine lv_aload_n hx hb d_Md_by_50 rfl (lv_at hl 0 rfl) ?_
      refine mg_14 C h d_Md_by_51 ?_
      refine lv_iload hx hb d_Md_by_54 (lv_at hl 4 rfl) ?_
      obtain ⟨h13, hf⟩ := op_if hf
      refine ma_14 C h rfl h13 d_Md_by_56 ?_
      refine lv_iload_n hx hb d_Md_by_57 rfl (lv_at hl 1 rfl) ?_
      obtain ⟨x15, he, hf⟩ := op_bind hf
      have K14 : ∀ (ls : Array Slot), lv_has ls 6 [(0, .ref (ad 0)), (1, .int v1), (2, .int v2), (3, .int v3), (4, .int v4)] → ∀ (H : Heap) (locs : List Loc), mH A s.heap dC dI ad cI cZ I R H locs → W p l e (rL 11) s m args below meth c H locs 0 0 Q (F0 m 80 ls [.int x15]) := by
        intro ls hl H locs h
        refine lv_istore (lv' := [(5, .int x15), (0, .ref (ad 0)), (1, .int v1), (2, .int v2), (3, .int v3), (4, .int v4)]) hx hb d_Md_by_80 hl (by decide) rfl (fun ls hl => ?_)
        refine lv_iload hx hb d_Md_by_82 (lv_at hl 0 rfl) ?_
        obtain ⟨x18, he, hf⟩ := op_bind hf
        have K17 : ∀ (ls : Array Slot), lv_has ls 6 [(0, .ref (ad 0)), (1, .int v1), (2, .int v2), (4, .int v4)] → ∀ (H : Heap) (locs : List Loc), mH A s.heap dC dI ad cI cZ I R H locs → W p l e (rL 11) s m args below meth c H locs 0 0 Q (F0 m 110 ls [.int x18]) := by
          intro ls hl H locs h
          refine lv_istore_n (lv' := [(3, .int x18), (0, .ref (ad 0)), (1, .int v1), (2, .int v2), (4, .int v4)]) hx hb d_Md_by_110 rfl hl (by decide) rfl (fun ls hl => ?_)
          refine lv_iinc (v := (v4 + 1)) (lv' := [(4, .int (v4 + 1)), (3, .int x18), (0, .ref (ad 0)), (1, .int v1), (2, .int v2)]) hx hb d_Md_by_111 hl (k := 4) rfl rfl (by decide) rfl (fun ls hl => ?_)
          refine lv_goto (tgt := 43) hx hb d_Md_by_114 (by decide) ?_
          exact ih x18 (v4 + 1) _ hf K ls (lv_sub hl [2, 3, 4, 1, 0] rfl) H locs h
        have hf := he
        refine lv_if_eq (tgt := 109) hx hb d_Md_by_84 (by decide) (fun hc => ?_) (fun hc => ?_)
        · have hf := op_t hc hf
          refine lv_iload_n hx hb d_Md_by_109 rfl (lv_at hl 4 rfl) ?_
          obtain rfl := op_i1 hf
          exact K17 ls (lv_sub hl [1, 2, 3, 5] rfl) H locs h
        · have hf := op_f hc hf
          refine lv_iload_n hx hb d_Md_by_87 rfl (lv_at hl 4 rfl) ?_
          refine lv_iconst (v := (-1)) hx hb d_Md_by_88 (by decide) ?_
          refine lv_icmp_eq (tgt := 104) hx hb d_Md_by_89 (by decide) (fun hc => ?_) (fun hc => ?_)
          · have hf := op_t hc hf
            refine lv_iload hx hb d_Md_by_104 (lv_at hl 5 rfl) ?_
            refine lv_goto (tgt := 110) hx hb d_Md_by_106 (by decide) ?_
            obtain rfl := op_i1 hf
            exact K17 ls (lv_sub hl [1, 2, 3, 5] rfl) H locs h
          · have hf := op_f hc hf
            refine lv_iload hx hb d_Md_by_92 (lv_at hl 5 rfl) ?_
            obtain ⟨x20, hc19, hf⟩ := op_bind hf
            refine ks_i (rest := []) hx hb hml hown hT (c_Md_count1 l n v4 _ hc19) (cbW 1 hT cd_Md_count1 rfl rfl ini_Md ml_Md_139 hd_Md_count1 ⟨Nat.le_of_ble_eq_true rfl, Nat.le_of_ble_eq_true rfl⟩) sm_Md_count1 rfl hl.1 rfl (Nat.le_of_ble_eq_true rfl) d_Md_by_94 ⟨Nat.zero_le _, Nat.zero_le _⟩ ?_
            refine lv_iload_n hx hb d_Md_by_97 rfl (lv_at hl 4 rfl) ?_
            obtain ⟨x22, hc21, hf⟩ := op_bind hf
            refine ks_i (rest := [.int x20]) hx hb hml hown hT (c_Md_count1 l n v3 _ hc21) (cbW 1 hT cd_Md_count1 rfl rfl ini_Md ml_Md_139 hd_Md_count1 ⟨Nat.le_of_ble_eq_true rfl, Nat.le_of_ble_eq_true rfl⟩) sm_Md_count1 rfl hl.1 rfl (Nat.le_of_ble_eq_true rfl) d_Md_by_98 ⟨Nat.zero_le _, Nat.zero_le _⟩ ?_
            refine lv_icmp_le (tgt := 109) hx hb d_Md_by_101 (by decide) (fun hc => ?_) (fun hc => ?_)
            · have hf := op_t hc hf
              refine lv_iload_n hx hb d_Md_by_109 rfl (lv_at hl 4 rfl) ?_
              obtain rfl := op_i1 hf
              exact K17 ls (lv_sub hl [1, 2, 3, 5] rfl) H locs h
            · have hf := op_f hc hf
              refine lv_iload hx hb d_Md_by_104 (lv_at hl 5 rfl) ?_
              refine lv_goto (tgt := 110) hx hb d_Md_by_106 (by decide) ?_
              obtain rfl := op_i1 hf
              exact K17 ls (lv_sub hl [1, 2, 3, 5] rfl) H locs h
      have hf := he
      refine lv_icmp_le (tgt := 75) hx hb d_Md_by_58 (by decide) (fun hc => ?_) (fun hc => ?_)
      · have hf := op_t hc hf
        refine lv_iconst (v := 1) hx hb d_Md_by_75 (by decide) ?_
        refine lv_goto (tgt := 80) hx hb d_Md_by_76 (by decide) ?_
        obtain rfl := op_i1 hf
        exact K14 ls (lv_sub hl [0, 1, 2, 3, 4] rfl) H locs h
      · have hf := op_f hc hf
        refine lv_aload_n hx hb d_Md_by_61 rfl (lv_at hl 0 rfl) ?_
        refine mg_14 C h d_Md_by_62 ?_
        refine lv_bipush (v := 64) hx hb d_Md_by_65 (by decide) ?_
        refine lv_iload hx hb d_Md_by_67 (lv_at hl 4 rfl) ?_
        refine lv_iadd hx hb d_Md_by_69 ?_
        obtain ⟨h16, hf⟩ := op_if hf
        refine ma_14 C h rfl h16 d_Md_by_70 ?_
        refine lv_iload_n hx hb d_Md_by_71 rfl (lv_at hl 1 rfl) ?_
        refine lv_icmp_gt (tgt := 79) hx hb d_Md_by_72 (by decide) (fun hc => ?_) (fun hc => ?_)
        · have hf := op_t hc hf
          refine lv_iconst (v := 0) hx hb d_Md_by_79 (by decide) ?_
          obtain rfl := op_i1 hf
          exact K14 ls (lv_sub hl [0, 1, 2, 3, 4] rfl) H locs h
        · have hf := op_f hc hf
          refine lv_iconst (v := 1) hx hb d_Md_by_75 (by decide) ?_
          refine lv_goto (tgt := 80) hx hb d_Md_by_76 (by decide) ?_
          obtain rfl := op_i1 hf
          exact K14 ls (lv_sub hl [0, 1, 2, 3, 4] rfl) H locs h
def p_Md_by (n : Nat) (v1 : Int32) (v2 : Int32) (I : Nat → Int32) (R : Nat → Nat → Int32) : Option (Int32 × MU) := (p_Md_in n v2 0 1).bind fun x2 => (if x2 = 0 then some ((-1), I, R) else (p_Md_in n v1 0 999).bind fun x4 => (if x4 = 0 then some ((-2), I, R) else (p_Md_looksForCosts n (-1) I R).bind fun (I6, R7) => (p_Md_now n I6 R7).bind fun x9 => (p_Md_looksFrom n x9 I6 R7).bind fun (I11, R12) => (l_Md_by_43 n v1 v2 I11 R12 n (-1) 0).bind fun y23 => (if v2 = 0 then (p_Md_count1 n y23).bind fun x27 => some x27 else some y23 : Option (Int32)).bind fun x25 => some (x25, I11, R12)))
set_option maxHeartbeats 4000000 in
theorem c_Md_by (l : Launch) (n : Nat) (v1 : Int32) (v2 : Int32) (I : Nat → Int32) (R : Nat → Nat → Int32)  : MMi l y_Md_by b_Md_by 6 .int (rL 11) (fun ad adK => [.int v1, .int v2]) I R (p_Md_by n v1 v2 I R) := by
  refine en_mi (by decide) rfl (fun _ _ => Nat.le_of_ble_eq_true rfl) ?_
  intro z hf p e s m args below meth c dC dI ad cI cZ A adK adV ls C hA h hr hlk hl
  have hl : lv_has ls 6 [(0, .ref (ad 0)), (1, .int v1), (2, .int v2)] := hl
  unfold p_Md_by at hf
  obtain ⟨hx, hb, hml, hown, hT, -⟩ := id C
  refine lv_iload_n hx hb d_Md_by_0 rfl (lv_at hl 2 rfl) ?_
  refine lv_iconst (v := 0) hx hb d_Md_by_1 (by decide) ?_
  refine lv_iconst (v := 1) hx hb d_Md_by_2 (by decide) ?_
  obtain ⟨x2, hc1, hf⟩ := op_bind hf
  refine ks_i (rest := []) hx hb hml hown hT (c_Md_in l n v2 0 1 _ hc1) (cbW 3 hT cd_Md_in rfl rfl ini_Md ml_Md_44 hd_Md_in ⟨Nat.le_of_ble_eq_true rfl, Nat.le_of_ble_eq_true rfl⟩) sm_Md_in rfl hl.1 rfl (Nat.le_of_ble_eq_true rfl) d_Md_by_3 ⟨Nat.zero_le _, Nat.zero_le _⟩ ?_
  refine lv_if_ne (tgt := 11) hx hb d_Md_by_6 (by decide) (fun hc => ?_) (fun hc => ?_)
  · have hf := op_f hc hf
    refine lv_iload_n hx hb d_Md_by_11 rfl (lv_at hl 1 rfl) ?_
    refine lv_iconst (v := 0) hx hb d_Md_by_12 (by decide) ?_
    refine lv_sipush (v := 999) hx hb d_Md_by_13 (by decide) ?_
    obtain ⟨x4, hc3, hf⟩ := op_bind hf
    refine ks_i (rest := []) hx hb hml hown hT (c_Md_in l n v1 0 999 _ hc3) (cbW 3 hT cd_Md_in rfl rfl ini_Md ml_Md_44 hd_Md_in ⟨Nat.le_of_ble_eq_true rfl, Nat.le_of_ble_eq_true rfl⟩) sm_Md_in rfl hl.1 rfl (Nat.le_of_ble_eq_true rfl) d_Md_by_16 ⟨Nat.zero_le _, Nat.zero_le _⟩ ?_
    refine lv_if_ne (tgt := 25) hx hb d_Md_by_19 (by decide) (fun hc => ?_) (fun hc => ?_)
    · have hf := op_f hc hf
      refine lv_aload_n hx hb d_Md_by_25 rfl (lv_at hl 0 rfl) ?_
      refine lv_iconst (v := (-1)) hx hb d_Md_by_26 (by decide) ?_
      obtain ⟨⟨I6, R7⟩, hc5, hf⟩ := op_bind hf
      try dsimp only at hf
      refine kc_v (rest := []) C h hA (c_Md_looksForCosts l n (-1) I R) hc5 (cbW 1 hT cd_Md_looksForCosts rfl rfl ini_Md ml_Md_180 hd_Md_looksForCosts ⟨Nat.le_of_ble_eq_true rfl, Nat.le_of_ble_eq_true rfl⟩) im_Md_looksForCosts sp_Md_looksForCosts rfl hl.1 rfl (Nat.le_of_ble_eq_true rfl) d_Md_by_27 ⟨Nat.zero_le _, Nat.zero_le _⟩ (fun H locs h => ?_)
      refine lv_aload_n hx hb d_Md_by_30 rfl (lv_at hl 0 rfl) ?_
      refine lv_aload_n hx hb d_Md_by_31 rfl (lv_at hl 0 rfl) ?_
      obtain ⟨x9, hc8, hf⟩ := op_bind hf
      refine kc_r (rest := [.ref (ad 0)]) C h hA (c_Md_now l n I6 R7) hc8 (cbW 0 hT cd_Md_now rfl rfl ini_Md ml_Md_190 hd_Md_now ⟨Nat.le_of_ble_eq_true rfl, Nat.le_of_ble_eq_true rfl⟩) im_Md_now sp_Md_now rfl hl.1 rfl (Nat.le_of_ble_eq_true rfl) d_Md_by_32 ⟨Nat.zero_le _, Nat.zero_le _⟩ (fun H locs h => ?_)
      obtain ⟨⟨I11, R12⟩, hc10, hf⟩ := op_bind hf
      try dsimp only at hf
      refine kc_v (rest := []) C h hA (c_Md_looksFrom l n x9 I6 R7) hc10 (cbW 1 hT cd_Md_looksFrom rfl rfl ini_Md ml_Md_183 hd_Md_looksFrom ⟨Nat.le_of_ble_eq_true rfl, Nat.le_of_ble_eq_true rfl⟩) im_Md_looksFrom sp_Md_looksFrom rfl hl.1 rfl (Nat.le_of_ble_eq_true rfl) d_Md_by_35 ⟨Nat.zero_le _, Nat.zero_le _⟩ (fun H locs h => ?_)
      refine lv_iconst (v := (-1)) hx hb d_Md_by_38 (by decide) ?_
      refine lv_istore_n (lv' := [(3, .int (-1)), (0, .ref (ad 0)), (1, .int v1), (2, .int v2)]) hx hb d_Md_by_39 rfl hl (by decide) rfl (fun ls hl => ?_)
      refine lv_iconst (v := 0) hx hb d_Md_by_40 (by decide) ?_
      refine lv_istore (lv' := [(4, .int 0), (3, .int (-1)), (0, .ref (ad 0)), (1, .int v1), (2, .int v2)]) hx hb d_Md_by_41 hl (by decide) rfl (fun ls hl => ?_)
      obtain ⟨y23, he, hf⟩ := op_bind hf
      refine wl_Md_by_43 C hA hr hlk n v1 v2 I11 R12 n (-1) 0 _ he (fun ls hl H locs h => ?_) ls (lv_sub hl [2, 3, 4, 1, 0] rfl) H locs h
      refine lv_iload_n hx hb d_Md_by_117 rfl (lv_at hl 0 rfl) ?_
      obtain ⟨x25, he, hf⟩ := op_bind hf
      have K24 : ∀ (ls : Array Slot), lv_has ls 6 [] → ∀ (H : Heap) (locs : List Loc), mH A s.heap dC dI ad cI cZ I11 R12 H locs → W p l e (rL 11) s m args below meth c H locs 0 0 (mQi dC dI ad cI cZ A below args s z) (F0 m 129 ls [.int x25]) := by
        intro ls hl H locs h
        exact rt_mi C h hr hlk hf rfl d_Md_by_129
      have hf := he
      refine lv_if_ne (tgt := 128) hx hb d_Md_by_118 (by decide) (fun hc => ?_) (fun hc => ?_)
      · have hf := op_f hc hf
        refine lv_iload_n hx hb d_Md_by_128 rfl (lv_at hl 1 rfl) ?_
        obtain rfl := op_i1 hf
        exact K24 ls (lv_sub hl [] rfl) H locs h
      · have hf := op_t hc hf
        refine lv_iload_n hx hb d_Md_by_121 rfl (lv_at hl 1 rfl) ?_
        obtain ⟨x27, hc26, hf⟩ := op_bind hf
        refine ks_i (rest := []) hx hb hml hown hT (c_Md_count1 l n y23 _ hc26) (cbW 1 hT cd_Md_count1 rfl rfl ini_Md ml_Md_139 hd_Md_count1 ⟨Nat.le_of_ble_eq_true rfl, Nat.le_of_ble_eq_true rfl⟩) sm_Md_count1 rfl hl.1 rfl (Nat.le_of_ble_eq_true rfl) d_Md_by_122 ⟨Nat.zero_le _, Nat.zero_le _⟩ ?_
        refine lv_goto (tgt := 129) hx hb d_Md_by_125 (by decide) ?_
        obtain rfl := op_i1 hf
        exact K24 ls (lv_sub hl [] rfl) H locs h
    · have hf := op_t hc hf
      refine lv_bipush (v := (-2)) hx hb d_Md_by_22 (by decide) ?_
      exact rt_mi C h hr hlk hf rfl d_Md_by_24
  · have hf := op_t hc hf
    refine lv_iconst (v := (-1)) hx hb d_Md_by_9 (by decide) ?_
    exact rt_mi C h hr hlk hf rfl d_Md_by_10
theorem hd_Md_bestRule : y_Md_bestRule.cls ≠ "java/lang/invoke/MethodHandle" ∧ y_Md_bestRule.cls ≠ "java/lang/invoke/VarHandle" ∧ (parseMethodDescriptor y_Md_bestRule.desc).map (fun d => d.parameters.length) = some 0 := by decide +kernel
theorem d_Md_bestRule_0 : decode b_Md_bestRule 0 = .ok (.iconst (-1), 1) := by decide +kernel
theorem d_Md_bestRule_1 : decode b_Md_bestRule 1 = .ok (.istore_n 1, 1) := by decide +kernel
theorem d_Md_bestRule_2 : decode b_Md_bestRule 2 = .ok (.ldc 176, 2) := by decide +kernel
theorem d_Md_bestRule_4 : decode b_Md_bestRule 4 = .ok (.istore_n 2, 1) := by decide +kernel
theorem d_Md_bestRule_5 : decode b_Md_bestRule 5 = .ok (.iconst 0, 1) := by decide +kernel
theorem d_Md_bestRule_6 : decode b_Md_bestRule 6 = .ok (.istore_n 3, 1) := by decide +kernel
theorem d_Md_bestRule_7 : decode b_Md_bestRule 7 = .ok (.iload_n 3, 1) := by decide +kernel
theorem d_Md_bestRule_8 : decode b_Md_bestRule 8 = .ok (.iconst 3, 1) := by decide +kernel
theorem d_Md_bestRule_9 : decode b_Md_bestRule 9 = .ok (.if_icmp .ge 57, 3) := by decide +kernel
theorem d_Md_bestRule_12 : decode b_Md_bestRule 12 = .ok (.aload_n 0, 1) := by decide +kernel
theorem d_Md_bestRule_13 : decode b_Md_bestRule 13 = .ok (.iload_n 3, 1) := by decide +kernel
theorem d_Md_bestRule_14 : decode b_Md_bestRule 14 = .ok (.invokevirtual 224, 3) := by decide +kernel
theorem d_Md_bestRule_17 : decode b_Md_bestRule 17 = .ok (.ifCond .eq 15, 3) := by decide +kernel
theorem d_Md_bestRule_20 : decode b_Md_bestRule 20 = .ok (.aload_n 0, 1) := by decide +kernel
theorem d_Md_bestRule_21 : decode b_Md_bestRule 21 = .ok (.getfield 215, 3) := by decide +kernel
theorem d_Md_bestRule_24 : decode b_Md_bestRule 24 = .ok (.iload_n 2, 1) := by decide +kernel
theorem d_Md_bestRule_25 : decode b_Md_bestRule 25 = .ok (.if_icmp .ge 7, 3) := by decide +kernel
theorem d_Md_bestRule_28 : decode b_Md_bestRule 28 = .ok (.iconst 1, 1) := by decide +kernel
theorem d_Md_bestRule_29 : decode b_Md_bestRule 29 = .ok (.goto 4, 3) := by decide +kernel
theorem d_Md_bestRule_32 : decode b_Md_bestRule 32 = .ok (.iconst 0, 1) := by decide +kernel
theorem d_Md_bestRule_33 : decode b_Md_bestRule 33 = .ok (.istore 4, 2) := by decide +kernel
theorem d_Md_bestRule_35 : decode b_Md_bestRule 35 = .ok (.iload 4, 2) := by decide +kernel
theorem d_Md_bestRule_37 : decode b_Md_bestRule 37 = .ok (.ifCond .eq 7, 3) := by decide +kernel
theorem d_Md_bestRule_40 : decode b_Md_bestRule 40 = .ok (.iload_n 3, 1) := by decide +kernel
theorem d_Md_bestRule_41 : decode b_Md_bestRule 41 = .ok (.goto 4, 3) := by decide +kernel
theorem d_Md_bestRule_44 : decode b_Md_bestRule 44 = .ok (.iload_n 1, 1) := by decide +kernel
theorem d_Md_bestRule_45 : decode b_Md_bestRule 45 = .ok (.istore_n 1, 1) := by decide +kernel
theorem d_Md_bestRule_46 : decode b_Md_bestRule 46 = .ok (.iload 4, 2) := by decide +kernel
theorem d_Md_bestRule_48 : decode b_Md_bestRule 48 = .ok (.ifCond .eq 10, 3) := by decide +kernel
theorem d_Md_bestRule_51 : decode b_Md_bestRule 51 = .ok (.aload_n 0, 1) := by decide +kernel
theorem d_Md_bestRule_52 : decode b_Md_bestRule 52 = .ok (.getfield 215, 3) := by decide +kernel
theorem d_Md_bestRule_55 : decode b_Md_bestRule 55 = .ok (.goto 4, 3) := by decide +kernel
theorem d_Md_bestRule_58 : decode b_Md_bestRule 58 = .ok (.iload_n 2, 1) := by decide +kernel
theorem d_Md_bestRule_59 : decode b_Md_bestRule 59 = .ok (.istore_n 2, 1) := by decide +kernel
theorem d_Md_bestRule_60 : decode b_Md_bestRule 60 = .ok (.iinc 3 1, 3) := by decide +kernel
theorem d_Md_bestRule_63 : decode b_Md_bestRule 63 = .ok (.goto (-56), 3) := by decide +kernel
theorem d_Md_bestRule_66 : decode b_Md_bestRule 66 = .ok (.iload_n 1, 1) := by decide +kernel
theorem d_Md_bestRule_67 : decode b_Md_bestRule 67 = .ok (.ireturn, 1) := by decide +kernel
def l_Md_bestRule_7 (n : Nat)    : Nat → Int32 → Int32 → Int32 → (Nat → Int32) → (Nat → Nat → Int32) → Option (Int32 × (Nat → Int32) × (Nat → Nat → Int32))
  | 0, _, _, _, _, _ => none
  | k + 1, v1, v2, v3, I, R => (if 3 ≤ v3 then some (v1, I, R) else (p_Md_goesByRule n v3 I R).bind fun (x4, I2, R3) => (if x4 = 0 then some 0 else (if v2 ≤ (I2 17) then some 0 else some 1) : Option (Int32)).bind fun x6 => (if x6 = 0 then some v1 else some v3 : Option (Int32)).bind fun x8 => (if x6 = 0 then some v2 else some (I2 17) : Option (Int32)).bind fun x10 => l_Md_bestRule_7 n k x8 x10 (v3 + 1) I2 R3)
set_option maxHeartbeats 4000000 in
theorem wl_Md_bestRule_7 {Q : State → Prop}  {p : Program} {l : Launch} {e : Env} {s : State} {m : MethodId} {args : Array Value} {below : List Frame} {meth : Method} {c : Code} {dC : Nat → ClassId} {dI : Nat → Nat → Nat} {ad : Nat → Nat} {cI cZ : ClassId} {A : Nat → Prop} {adK adV : Nat → Nat} (C : mC p s m args c b_Md_bestRule 5 dC dI cI cZ A adK adV) (hA : ∀ q, s.heap.size ≤ q → A q) (hr : meth.sig.returnType = some .int) (hlk : meth.locks = false) (n : Nat)    : ∀ (k : Nat) (v1 : Int32) (v2 : Int32) (v3 : Int32) (I : Nat → Int32) (R : Nat → Nat → Int32) (r0 : Int32) (r1 : Nat → Int32) (r2 : Nat → Nat → Int32), l_Md_bestRule_7 n k v1 v2 v3 I R = some (r0, r1, r2) → (∀ (ls : Array Slot), lv_has ls 5 [(1, .int r0)] → ∀ (H : Heap) (locs : List Loc), mH A s.heap dC dI ad cI cZ r1 r2 H locs → W p l e (rL 11) s m args below meth c H locs 0 0 Q (F0 m 66 ls [])) → ∀ (ls : Array Slot), lv_has ls 5 [(0, .ref (ad 0)), (1, .int v1), (2, .int v2), (3, .int v3)] → ∀ (H : Heap) (locs : List Loc), mH A s.heap dC dI ad cI cZ I R H locs → W p l e (rL 11) s m args below meth c H locs 0 0 Q (F0 m 7 ls []) := by
  obtain ⟨hx, hb, hml, hown, hT, -⟩ := id C
  intro k
  induction k with
  | zero => intro v1 v2 v3 I R r0 r1 r2 hf; exact absurd hf (by unfold l_Md_bestRule_7; exact fun h9 => by cases h9)
  | succ k ih =>
    intro v1 v2 v3 I R r0 r1 r2 hf K ls hl H locs h
    unfold l_Md_bestRule_7 at hf
    refine lv_iload_n hx hb d_Md_bestRule_7 rfl (lv_at hl 3 rfl) ?_
    refine lv_iconst (v := 3) hx hb d_Md_bestRule_8 (by decide) ?_
    refine lv_icmp_ge (tgt := 66) hx hb d_Md_bestRule_9 (by decide) (fun hc => ?_) (fun hc => ?_)
    · have hf := op_t hc hf
      obtain ⟨rfl, rfl, rfl⟩ := op_i3 hf
      exact K ls (lv_sub hl [1] rfl) H locs h
    · have hf := op_f hc hf
      refine lv_aload_n hx hb d_Md_bestRule_12 rfl (lv_at hl 0 rfl) ?_
      refine lv_iload_n hx hb d_Md_bestRule_13 rfl (lv_at hl 3 rfl) ?_
      obtain ⟨⟨x4, I2, R3⟩, hc1, hf⟩ := op_bind hf
      try dsimp only at hf
      refine kc_i (rest := []) C h hA (c_Md_goesByRule l n v3 I R) hc1 (cbW 1 hT cd_Md_goesByRule rfl rfl ini_Md ml_Md_224 hd_Md_goesByRule ⟨Nat.le_of_ble_eq_true rfl, Nat.le_of_ble_eq_true rfl⟩) im_Md_goesByRule sp_Md_goesByRule rfl hl.1 rfl (Nat.le_of_ble_eq_true rfl) d_Md_bestRule_14 ⟨Nat.zero_le _, Nat.zero_le _⟩ (fun H locs h => ?_)
      obtain ⟨x6, he, hf⟩ := op_bind hf
      have K5 : ∀ (ls : Array Slot), lv_has ls 5 [(0, .ref (ad 0)), (1, .int v1), (2, .int v2), (3, .int v3)] → ∀ (H : Heap) (locs : List Loc), mH A s.heap dC dI ad cI cZ I2 R3 H locs → W p l e (rL 11) s m args below meth c H locs 0 0 Q (F0 m 33 ls [.int x6]) := by
        intro ls hl H locs h
        refine lv_istore (lv' := [(4, .int x6), (0, .ref (ad 0)), (1, .int v1), (2, .int v2), (3, .int v3)]) hx hb d_Md_bestRule_33 hl (by decide) rfl (fun ls hl => ?_)
        refine lv_iload hx hb d_Md_bestRule_35 (lv_at hl 0 rfl) ?_
        obtain ⟨x8, he, hf⟩ := op_bind hf
        have K7 : ∀ (ls : Array Slot), lv_has ls 5 [(0, .ref (ad 0)), (2, .int v2), (3, .int v3), (4, .int x6)] → ∀ (H : Heap) (locs : List Loc), mH A s.heap dC dI ad cI cZ I2 R3 H locs → W p l e (rL 11) s m args below meth c H locs 0 0 Q (F0 m 45 ls [.int x8]) := by
          intro ls hl H locs h
          refine lv_istore_n (lv' := [(1, .int x8), (0, .ref (ad 0)), (2, .int v2), (3, .int v3), (4, .int x6)]) hx hb d_Md_bestRule_45 rfl hl (by decide) rfl (fun ls hl => ?_)
          refine lv_iload hx hb d_Md_bestRule_46 (lv_at hl 4 rfl) ?_
          obtain ⟨x10, he, hf⟩ := op_bind hf
          have K9 : ∀ (ls : Array Slot), lv_has ls 5 [(0, .ref (ad 0)), (1, .int x8), (3, .int v3)] → ∀ (H : Heap) (locs : List Loc), mH A s.heap dC dI ad cI cZ I2 R3 H locs → W p l e (rL 11) s m args below meth c H locs 0 0 Q (F0 m 59 ls [.int x10]) := by
            intro ls hl H locs h
            refine lv_istore_n (lv' := [(2, .int x10), (0, .ref (ad 0)), (1, .int x8), (3, .int v3)]) hx hb d_Md_bestRule_59 rfl hl (by decide) rfl (fun ls hl => ?_)
            refine lv_iinc (v := (v3 + 1)) (lv' := [(3, .int (v3 + 1)), (2, .int x10), (0, .ref (ad 0)), (1, .int x8)]) hx hb d_Md_bestRule_60 hl (k := 3) rfl rfl (by decide) rfl (fun ls hl => ?_)
            refine lv_goto (tgt := 7) hx hb d_Md_bestRule_63 (by decide) ?_
            exact ih x8 x10 (v3 + 1) I2 R3 _ _ _ hf K ls (lv_sub hl [2, 3, 1, 0] rfl) H locs h
          have hf := he
          refine lv_if_eq (tgt := 58) hx hb d_Md_bestRule_48 (by decide) (fun hc => ?_) (fun hc => ?_)
          · have hf := op_t hc hf
            refine lv_iload_n hx hb d_Md_bestRule_58 rfl (lv_at hl 2 rfl) ?_
            obtain rfl := op_i1 hf
            exact K9 ls (lv_sub hl [1, 0, 3] rfl) H locs h
          · have hf := op_f hc hf
            refine lv_aload_n hx hb d_Md_bestRule_51 rfl (lv_at hl 1 rfl) ?_
            refine mg_17 C h d_Md_bestRule_52 ?_
            refine lv_goto (tgt := 59) hx hb d_Md_bestRule_55 (by decide) ?_
            obtain rfl := op_i1 hf
            exact K9 ls (lv_sub hl [1, 0, 3] rfl) H locs h
        have hf := he
        refine lv_if_eq (tgt := 44) hx hb d_Md_bestRule_37 (by decide) (fun hc => ?_) (fun hc => ?_)
        · have hf := op_t hc hf
          refine lv_iload_n hx hb d_Md_bestRule_44 rfl (lv_at hl 2 rfl) ?_
          obtain rfl := op_i1 hf
          exact K7 ls (lv_sub hl [1, 3, 4, 0] rfl) H locs h
        · have hf := op_f hc hf
          refine lv_iload_n hx hb d_Md_bestRule_40 rfl (lv_at hl 4 rfl) ?_
          refine lv_goto (tgt := 45) hx hb d_Md_bestRule_41 (by decide) ?_
          obtain rfl := op_i1 hf
          exact K7 ls (lv_sub hl [1, 3, 4, 0] rfl) H locs h
      have hf := he
      refine lv_if_eq (tgt := 32) hx hb d_Md_bestRule_17 (by decide) (fun hc => ?_) (fun hc => ?_)
      · have hf := op_t hc hf
        refine lv_iconst (v := 0) hx hb d_Md_bestRule_32 (by decide) ?_
        obtain rfl := op_i1 hf
        exact K5 ls (lv_sub hl [0, 1, 2, 3] rfl) H locs h
      · have hf := op_f hc hf
        refine lv_aload_n hx hb d_Md_bestRule_20 rfl (lv_at hl 0 rfl) ?_
        refine mg_17 C h d_Md_bestRule_21 ?_
        refine lv_iload_n hx hb d_Md_bestRule_24 rfl (lv_at hl 2 rfl) ?_
        refine lv_icmp_ge (tgt := 32) hx hb d_Md_bestRule_25 (by decide) (fun hc => ?_) (fun hc => ?_)
        · have hf := op_t hc hf
          refine lv_iconst (v := 0) hx hb d_Md_bestRule_32 (by decide) ?_
          obtain rfl := op_i1 hf
          exact K5 ls (lv_sub hl [0, 1, 2, 3] rfl) H locs h
        · have hf := op_f hc hf
          refine lv_iconst (v := 1) hx hb d_Md_bestRule_28 (by decide) ?_
          refine lv_goto (tgt := 33) hx hb d_Md_bestRule_29 (by decide) ?_
          obtain rfl := op_i1 hf
          exact K5 ls (lv_sub hl [0, 1, 2, 3] rfl) H locs h
def p_Md_bestRule (n : Nat)  (I : Nat → Int32) (R : Nat → Nat → Int32) : Option (Int32 × MU) := (l_Md_bestRule_7 n n (-1) 1000000 0 I R).bind fun (y11, I12, R13) => some (y11, I12, R13)
set_option maxHeartbeats 4000000 in
theorem c_Md_bestRule (l : Launch) (n : Nat)  (I : Nat → Int32) (R : Nat → Nat → Int32)  : MMi l y_Md_bestRule b_Md_bestRule 5 .int (rL 11) (fun ad adK => []) I R (p_Md_bestRule n I R) := by
  refine en_mi (by decide) rfl (fun _ _ => Nat.le_of_ble_eq_true rfl) ?_
  intro z hf p e s m args below meth c dC dI ad cI cZ A adK adV ls C hA h hr hlk hl
  have hl : lv_has ls 5 [(0, .ref (ad 0))] := hl
  unfold p_Md_bestRule at hf
  obtain ⟨hx, hb, hml, hown, hT, -⟩ := id C
  refine lv_iconst (v := (-1)) hx hb d_Md_bestRule_0 (by decide) ?_
  refine lv_istore_n (lv' := [(1, .int (-1)), (0, .ref (ad 0))]) hx hb d_Md_bestRule_1 rfl hl (by decide) rfl (fun ls hl => ?_)
  refine lv_ldc (v := 1000000) hx hb hown (hT _ ko_Md_176) d_Md_bestRule_2 ?_
  refine lv_istore_n (lv' := [(2, .int 1000000), (1, .int (-1)), (0, .ref (ad 0))]) hx hb d_Md_bestRule_4 rfl hl (by decide) rfl (fun ls hl => ?_)
  refine lv_iconst (v := 0) hx hb d_Md_bestRule_5 (by decide) ?_
  refine lv_istore_n (lv' := [(3, .int 0), (2, .int 1000000), (1, .int (-1)), (0, .ref (ad 0))]) hx hb d_Md_bestRule_6 rfl hl (by decide) rfl (fun ls hl => ?_)
  obtain ⟨⟨y11, I12, R13⟩, he, hf⟩ := op_bind hf
  try dsimp only at hf
  refine wl_Md_bestRule_7 C hA hr hlk n  n (-1) 1000000 0 I R _ _ _ he (fun ls hl H locs h => ?_) ls (lv_sub hl [3, 2, 1, 0] rfl) s.heap [] h
  refine lv_iload_n hx hb d_Md_bestRule_66 rfl (lv_at hl 0 rfl) ?_
  exact rt_mi C h hr hlk hf rfl d_Md_bestRule_67
theorem hd_Md_tellsActs : y_Md_tellsActs.cls ≠ "java/lang/invoke/MethodHandle" ∧ y_Md_tellsActs.cls ≠ "java/lang/invoke/VarHandle" ∧ (parseMethodDescriptor y_Md_tellsActs.desc).map (fun d => d.parameters.length) = some 1 := by decide +kernel
theorem d_Md_tellsActs_0 : decode b_Md_tellsActs 0 = .ok (.aload_n 0, 1) := by decide +kernel
theorem d_Md_tellsActs_1 : decode b_Md_tellsActs 1 = .ok (.getfield 253, 3) := by decide +kernel
theorem d_Md_tellsActs_4 : decode b_Md_tellsActs 4 = .ok (.iconst 3, 1) := by decide +kernel
theorem d_Md_tellsActs_5 : decode b_Md_tellsActs 5 = .ok (.invokestatic 256, 3) := by decide +kernel
theorem d_Md_tellsActs_8 : decode b_Md_tellsActs 8 = .ok (.ifCond .eq 18, 3) := by decide +kernel
theorem d_Md_tellsActs_11 : decode b_Md_tellsActs 11 = .ok (.aload_n 0, 1) := by decide +kernel
theorem d_Md_tellsActs_12 : decode b_Md_tellsActs 12 = .ok (.bipush 31, 2) := by decide +kernel
theorem d_Md_tellsActs_14 : decode b_Md_tellsActs 14 = .ok (.invokevirtual 247, 3) := by decide +kernel
theorem d_Md_tellsActs_17 : decode b_Md_tellsActs 17 = .ok (.aload_n 0, 1) := by decide +kernel
theorem d_Md_tellsActs_18 : decode b_Md_tellsActs 18 = .ok (.iload_n 1, 1) := by decide +kernel
theorem d_Md_tellsActs_19 : decode b_Md_tellsActs 19 = .ok (.invokevirtual 274, 3) := by decide +kernel
theorem d_Md_tellsActs_22 : decode b_Md_tellsActs 22 = .ok (.bipush 7, 2) := by decide +kernel
theorem d_Md_tellsActs_24 : decode b_Md_tellsActs 24 = .ok (.ixor, 1) := by decide +kernel
theorem d_Md_tellsActs_25 : decode b_Md_tellsActs 25 = .ok (.ireturn, 1) := by decide +kernel
theorem d_Md_tellsActs_26 : decode b_Md_tellsActs 26 = .ok (.aload_n 0, 1) := by decide +kernel
theorem d_Md_tellsActs_27 : decode b_Md_tellsActs 27 = .ok (.getfield 253, 3) := by decide +kernel
theorem d_Md_tellsActs_30 : decode b_Md_tellsActs 30 = .ok (.iconst 4, 1) := by decide +kernel
theorem d_Md_tellsActs_31 : decode b_Md_tellsActs 31 = .ok (.if_icmp .ne 25, 3) := by decide +kernel
theorem d_Md_tellsActs_34 : decode b_Md_tellsActs 34 = .ok (.aload_n 0, 1) := by decide +kernel
theorem d_Md_tellsActs_35 : decode b_Md_tellsActs 35 = .ok (.bipush 41, 2) := by decide +kernel
theorem d_Md_tellsActs_37 : decode b_Md_tellsActs 37 = .ok (.invokevirtual 247, 3) := by decide +kernel
theorem d_Md_tellsActs_40 : decode b_Md_tellsActs 40 = .ok (.aload_n 0, 1) := by decide +kernel
theorem d_Md_tellsActs_41 : decode b_Md_tellsActs 41 = .ok (.iload_n 1, 1) := by decide +kernel
theorem d_Md_tellsActs_42 : decode b_Md_tellsActs 42 = .ok (.iconst 1, 1) := by decide +kernel
theorem d_Md_tellsActs_43 : decode b_Md_tellsActs 43 = .ok (.isub, 1) := by decide +kernel
theorem d_Md_tellsActs_44 : decode b_Md_tellsActs 44 = .ok (.invokevirtual 274, 3) := by decide +kernel
theorem d_Md_tellsActs_47 : decode b_Md_tellsActs 47 = .ok (.istore_n 2, 1) := by decide +kernel
theorem d_Md_tellsActs_48 : decode b_Md_tellsActs 48 = .ok (.iload_n 2, 1) := by decide +kernel
theorem d_Md_tellsActs_49 : decode b_Md_tellsActs 49 = .ok (.aload_n 0, 1) := by decide +kernel
theorem d_Md_tellsActs_50 : decode b_Md_tellsActs 50 = .ok (.iconst 2, 1) := by decide +kernel
theorem d_Md_tellsActs_51 : decode b_Md_tellsActs 51 = .ok (.invokevirtual 262, 3) := by decide +kernel
theorem d_Md_tellsActs_54 : decode b_Md_tellsActs 54 = .ok (.iadd, 1) := by decide +kernel
theorem d_Md_tellsActs_55 : decode b_Md_tellsActs 55 = .ok (.ireturn, 1) := by decide +kernel
theorem d_Md_tellsActs_56 : decode b_Md_tellsActs 56 = .ok (.aload_n 0, 1) := by decide +kernel
theorem d_Md_tellsActs_57 : decode b_Md_tellsActs 57 = .ok (.iload_n 1, 1) := by decide +kernel
theorem d_Md_tellsActs_58 : decode b_Md_tellsActs 58 = .ok (.invokevirtual 274, 3) := by decide +kernel
theorem d_Md_tellsActs_61 : decode b_Md_tellsActs 61 = .ok (.ireturn, 1) := by decide +kernel
def p_Md_tellsActs (n : Nat) (v1 : Int32) (I : Nat → Int32) (R : Nat → Nat → Int32) : Option (Int32 × MU) := (p_Md_isUnder n (I 21) 3).bind fun x2 => (if x2 = 0 then (if (I 21) = 4 then (p_Md_ranBody n 41 I R).bind fun (I8, R9) => (p_Md_plainTells n (v1 - 1) I8 R9).bind fun (x13, I11, R12) => (p_Md_goesActs n 2 I11 R12).bind fun (x17, I15, R16) => some ((x13 + x17), I15, R16) else (p_Md_plainTells n v1 I R).bind fun (x6, I4, R5) => some (x6, I4, R5)) else (p_Md_ranBody n 31 I R).bind fun (I19, R20) => (p_Md_plainTells n v1 I19 R20).bind fun (x24, I22, R23) => some ((x24 ^^^ 7), I22, R23))
set_option maxHeartbeats 4000000 in
theorem c_Md_tellsActs (l : Launch) (n : Nat) (v1 : Int32) (I : Nat → Int32) (R : Nat → Nat → Int32)  : MMi l y_Md_tellsActs b_Md_tellsActs 3 .int (rL 11) (fun ad adK => [.int v1]) I R (p_Md_tellsActs n v1 I R) := by
  refine en_mi (by decide) rfl (fun _ _ => Nat.le_of_ble_eq_true rfl) ?_
  intro z hf p e s m args below meth c dC dI ad cI cZ A adK adV ls C hA h hr hlk hl
  have hl : lv_has ls 3 [(0, .ref (ad 0)), (1, .int v1)] := hl
  unfold p_Md_tellsActs at hf
  obtain ⟨hx, hb, hml, hown, hT, -⟩ := id C
  refine lv_aload_n hx hb d_Md_tellsActs_0 rfl (lv_at hl 0 rfl) ?_
  refine mg_21 C h d_Md_tellsActs_1 ?_
  refine lv_iconst (v := 3) hx hb d_Md_tellsActs_4 (by decide) ?_
  obtain ⟨x2, hc1, hf⟩ := op_bind hf
  refine ks_i (rest := []) hx hb hml hown hT (c_Md_isUnder l n (I 21) 3 _ hc1) (cbW 2 hT cd_Md_isUnder rfl rfl ini_Md ml_Md_256 hd_Md_isUnder ⟨Nat.le_of_ble_eq_true rfl, Nat.le_of_ble_eq_true rfl⟩) sm_Md_isUnder rfl hl.1 rfl (Nat.le_of_ble_eq_true rfl) d_Md_tellsActs_5 ⟨Nat.zero_le _, Nat.zero_le _⟩ ?_
  refine lv_if_eq (tgt := 26) hx hb d_Md_tellsActs_8 (by decide) (fun hc => ?_) (fun hc => ?_)
  · have hf := op_t hc hf
    refine lv_aload_n hx hb d_Md_tellsActs_26 rfl (lv_at hl 0 rfl) ?_
    refine mg_21 C h d_Md_tellsActs_27 ?_
    refine lv_iconst (v := 4) hx hb d_Md_tellsActs_30 (by decide) ?_
    refine lv_icmp_ne (tgt := 56) hx hb d_Md_tellsActs_31 (by decide) (fun hc => ?_) (fun hc => ?_)
    · have hf := op_f hc hf
      refine lv_aload_n hx hb d_Md_tellsActs_56 rfl (lv_at hl 0 rfl) ?_
      refine lv_iload_n hx hb d_Md_tellsActs_57 rfl (lv_at hl 1 rfl) ?_
      obtain ⟨⟨x6, I4, R5⟩, hc3, hf⟩ := op_bind hf
      try dsimp only at hf
      refine kc_i (rest := []) C h hA (c_Md_plainTells l n v1 I R) hc3 (cbW 1 hT cd_Md_plainTells rfl rfl ini_Md ml_Md_274 hd_Md_plainTells ⟨Nat.le_of_ble_eq_true rfl, Nat.le_of_ble_eq_true rfl⟩) im_Md_plainTells sp_Md_plainTells rfl hl.1 rfl (Nat.le_of_ble_eq_true rfl) d_Md_tellsActs_58 ⟨Nat.zero_le _, Nat.zero_le _⟩ (fun H locs h => ?_)
      exact rt_mi C h hr hlk hf rfl d_Md_tellsActs_61
    · have hf := op_t hc hf
      refine lv_aload_n hx hb d_Md_tellsActs_34 rfl (lv_at hl 0 rfl) ?_
      refine lv_bipush (v := 41) hx hb d_Md_tellsActs_35 (by decide) ?_
      obtain ⟨⟨I8, R9⟩, hc7, hf⟩ := op_bind hf
      try dsimp only at hf
      refine kc_v (rest := []) C h hA (c_Md_ranBody l n 41 I R) hc7 (cbW 1 hT cd_Md_ranBody rfl rfl ini_Md ml_Md_247 hd_Md_ranBody ⟨Nat.le_of_ble_eq_true rfl, Nat.le_of_ble_eq_true rfl⟩) im_Md_ranBody sp_Md_ranBody rfl hl.1 rfl (Nat.le_of_ble_eq_true rfl) d_Md_tellsActs_37 ⟨Nat.zero_le _, Nat.zero_le _⟩ (fun H locs h => ?_)
      refine lv_aload_n hx hb d_Md_tellsActs_40 rfl (lv_at hl 0 rfl) ?_
      refine lv_iload_n hx hb d_Md_tellsActs_41 rfl (lv_at hl 1 rfl) ?_
      refine lv_iconst (v := 1) hx hb d_Md_tellsActs_42 (by decide) ?_
      refine lv_isub hx hb d_Md_tellsActs_43 ?_
      obtain ⟨⟨x13, I11, R12⟩, hc10, hf⟩ := op_bind hf
      try dsimp only at hf
      refine kc_i (rest := []) C h hA (c_Md_plainTells l n (v1 - 1) I8 R9) hc10 (cbW 1 hT cd_Md_plainTells rfl rfl ini_Md ml_Md_274 hd_Md_plainTells ⟨Nat.le_of_ble_eq_true rfl, Nat.le_of_ble_eq_true rfl⟩) im_Md_plainTells sp_Md_plainTells rfl hl.1 rfl (Nat.le_of_ble_eq_true rfl) d_Md_tellsActs_44 ⟨Nat.zero_le _, Nat.zero_le _⟩ (fun H locs h => ?_)
      refine lv_istore_n (lv' := [(2, .int x13), (0, .ref (ad 0)), (1, .int v1)]) hx hb d_Md_tellsActs_47 rfl hl (by decide) rfl (fun ls hl => ?_)
      refine lv_iload_n hx hb d_Md_tellsActs_48 rfl (lv_at hl 0 rfl) ?_
      refine lv_aload_n hx hb d_Md_tellsActs_49 rfl (lv_at hl 1 rfl) ?_
      refine lv_iconst (v := 2) hx hb d_Md_tellsActs_50 (by decide) ?_
      obtain ⟨⟨x17, I15, R16⟩, hc14, hf⟩ := op_bind hf
      try dsimp only at hf
      refine kc_i (rest := [.int x13]) C h hA (c_Md_goesActs l n 2 I11 R12) hc14 (cbW 1 hT cd_Md_goesActs rfl rfl ini_Md ml_Md_262 hd_Md_goesActs ⟨Nat.le_of_ble_eq_true rfl, Nat.le_of_ble_eq_true rfl⟩) im_Md_goesActs sp_Md_goesActs rfl hl.1 rfl (Nat.le_of_ble_eq_true rfl) d_Md_tellsActs_51 ⟨Nat.zero_le _, Nat.zero_le _⟩ (fun H locs h => ?_)
      refine lv_iadd hx hb d_Md_tellsActs_54 ?_
      exact rt_mi C h hr hlk hf rfl d_Md_tellsActs_55
  · have hf := op_f hc hf
    refine lv_aload_n hx hb d_Md_tellsActs_11 rfl (lv_at hl 0 rfl) ?_
    refine lv_bipush (v := 31) hx hb d_Md_tellsActs_12 (by decide) ?_
    obtain ⟨⟨I19, R20⟩, hc18, hf⟩ := op_bind hf
    try dsimp only at hf
    refine kc_v (rest := []) C h hA (c_Md_ranBody l n 31 I R) hc18 (cbW 1 hT cd_Md_ranBody rfl rfl ini_Md ml_Md_247 hd_Md_ranBody ⟨Nat.le_of_ble_eq_true rfl, Nat.le_of_ble_eq_true rfl⟩) im_Md_ranBody sp_Md_ranBody rfl hl.1 rfl (Nat.le_of_ble_eq_true rfl) d_Md_tellsActs_14 ⟨Nat.zero_le _, Nat.zero_le _⟩ (fun H locs h => ?_)
    refine lv_aload_n hx hb d_Md_tellsActs_17 rfl (lv_at hl 0 rfl) ?_
    refine lv_iload_n hx hb d_Md_tellsActs_18 rfl (lv_at hl 1 rfl) ?_
    obtain ⟨⟨x24, I22, R23⟩, hc21, hf⟩ := op_bind hf
    try dsimp only at hf
    refine kc_i (rest := []) C h hA (c_Md_plainTells l n v1 I19 R20) hc21 (cbW 1 hT cd_Md_plainTells rfl rfl ini_Md ml_Md_274 hd_Md_plainTells ⟨Nat.le_of_ble_eq_true rfl, Nat.le_of_ble_eq_true rfl⟩) im_Md_plainTells sp_Md_plainTells rfl hl.1 rfl (Nat.le_of_ble_eq_true rfl) d_Md_tellsActs_19 ⟨Nat.zero_le _, Nat.zero_le _⟩ (fun H locs h => ?_)
    refine lv_bipush (v := 7) hx hb d_Md_tellsActs_22 (by decide) ?_
    refine lv_ixor hx hb d_Md_tellsActs_24 ?_
    exact rt_mi C h hr hlk hf rfl d_Md_tellsActs_25
