theorem hd_Md_clauseOfB : y_Md_clauseOfB.cls ≠ "java/lang/invoke/MethodHandle" ∧ y_Md_clauseOfB.cls ≠ "java/lang/invoke/VarHandle" ∧ (parseMethodDescriptor y_Md_clauseOfB.desc).map (fun d => d.parameters.length) = some 0 := by decide +kernel
theorem d_Md_clauseOfB_0 : decode b_Md_clauseOfB 0 = .ok (.aload_n 0, 1) := by decide +kernel
theorem d_Md_clauseOfB_1 : decode b_Md_clauseOfB 1 = .ok (.bipush 98, 2) := by decide +kernel
theorem d_Md_clauseOfB_3 : decode b_Md_clauseOfB 3 = .ok (.invokevirtual 74, 3) := by decide +kernel
theorem d_Md_clauseOfB_6 : decode b_Md_clauseOfB 6 = .ok (.aload_n 0, 1) := by decide +kernel
theorem d_Md_clauseOfB_7 : decode b_Md_clauseOfB 7 = .ok (.invokevirtual 62, 3) := by decide +kernel
theorem d_Md_clauseOfB_10 : decode b_Md_clauseOfB 10 = .ok (.bipush 97, 2) := by decide +kernel
theorem d_Md_clauseOfB_12 : decode b_Md_clauseOfB 12 = .ok (.if_icmp .ne 23, 3) := by decide +kernel
theorem d_Md_clauseOfB_15 : decode b_Md_clauseOfB 15 = .ok (.aload_n 0, 1) := by decide +kernel
theorem d_Md_clauseOfB_16 : decode b_Md_clauseOfB 16 = .ok (.ldc 111, 2) := by decide +kernel
theorem d_Md_clauseOfB_18 : decode b_Md_clauseOfB 18 = .ok (.invokevirtual 107, 3) := by decide +kernel
theorem d_Md_clauseOfB_21 : decode b_Md_clauseOfB 21 = .ok (.aload_n 0, 1) := by decide +kernel
theorem d_Md_clauseOfB_22 : decode b_Md_clauseOfB 22 = .ok (.invokevirtual 90, 3) := by decide +kernel
theorem d_Md_clauseOfB_25 : decode b_Md_clauseOfB 25 = .ok (.aload_n 0, 1) := by decide +kernel
theorem d_Md_clauseOfB_26 : decode b_Md_clauseOfB 26 = .ok (.sipush (-200), 3) := by decide +kernel
theorem d_Md_clauseOfB_29 : decode b_Md_clauseOfB 29 = .ok (.invokevirtual 87, 3) := by decide +kernel
theorem d_Md_clauseOfB_32 : decode b_Md_clauseOfB 32 = .ok (.goto 12, 3) := by decide +kernel
theorem d_Md_clauseOfB_35 : decode b_Md_clauseOfB 35 = .ok (.aload_n 0, 1) := by decide +kernel
theorem d_Md_clauseOfB_36 : decode b_Md_clauseOfB 36 = .ok (.sipush 170, 3) := by decide +kernel
theorem d_Md_clauseOfB_39 : decode b_Md_clauseOfB 39 = .ok (.ldc 113, 2) := by decide +kernel
theorem d_Md_clauseOfB_41 : decode b_Md_clauseOfB 41 = .ok (.invokevirtual 115, 3) := by decide +kernel
theorem d_Md_clauseOfB_44 : decode b_Md_clauseOfB 44 = .ok (.return_, 1) := by decide +kernel
def p_Md_clauseOfB (n : Nat)  (I : Nat → Int32) (R : Nat → Nat → Int32) : Option (MU) := (p_Md_must n 98 I R).bind fun (I2, R3) => (p_Md_here n I2 R3).bind fun x5 => (if x5 = 97 then (p_Md_spells n 8 I2 R3).bind fun (I10, R11) => (p_Md_someT n I10 R11).bind fun (I13, R14) => (p_Md_emits n (-200) I13 R14).bind fun (I16, R17) => some (I16, R17) else (p_Md_tellsHere n 170 9 I2 R3).bind fun (I7, R8) => some (I7, R8))
set_option maxHeartbeats 4000000 in
theorem c_Md_clauseOfB (l : Launch) (n : Nat)  (I : Nat → Int32) (R : Nat → Nat → Int32)  : MMv l y_Md_clauseOfB b_Md_clauseOfB 1 (rL 38) (fun ad adK => []) I R (p_Md_clauseOfB n I R) := by
  refine en_mv (by decide) rfl (fun _ _ => Nat.le_of_ble_eq_true rfl) ?_
  intro z hf p e s m args below meth c dC dI ad cI cZ A adK adV ls C hA h hr hlk hl
  have hl : lv_has ls 1 [(0, .ref (ad 0))] := hl
  unfold p_Md_clauseOfB at hf
  obtain ⟨hx, hb, hml, hown, hT, -⟩ := id C
  refine lv_aload_n hx hb d_Md_clauseOfB_0 rfl (lv_at hl 0 rfl) ?_
  refine lv_bipush (v := 98) hx hb d_Md_clauseOfB_1 (by decide) ?_
  obtain ⟨⟨I2, R3⟩, hc1, hf⟩ := op_bind hf
  try dsimp only at hf
  refine kc_v (rest := []) C h hA (c_Md_must l n 98 I R) hc1 (cbW 1 hT cd_Md_must rfl rfl ini_Md ml_Md_74 hd_Md_must ⟨Nat.le_of_ble_eq_true rfl, Nat.le_of_ble_eq_true rfl⟩) im_Md_must sp_Md_must rfl hl.1 rfl (Nat.le_of_ble_eq_true rfl) d_Md_clauseOfB_3 ⟨Nat.zero_le _, Nat.zero_le _⟩ (fun H locs h => ?_)
  refine lv_aload_n hx hb d_Md_clauseOfB_6 rfl (lv_at hl 0 rfl) ?_
  obtain ⟨x5, hc4, hf⟩ := op_bind hf
  refine kc_r (rest := []) C h hA (c_Md_here l n I2 R3) hc4 (cbW 0 hT cd_Md_here rfl rfl ini_Md ml_Md_62 hd_Md_here ⟨Nat.le_of_ble_eq_true rfl, Nat.le_of_ble_eq_true rfl⟩) im_Md_here sp_Md_here rfl hl.1 rfl (Nat.le_of_ble_eq_true rfl) d_Md_clauseOfB_7 ⟨Nat.zero_le _, Nat.zero_le _⟩ (fun H locs h => ?_)
  refine lv_bipush (v := 97) hx hb d_Md_clauseOfB_10 (by decide) ?_
  refine lv_icmp_ne (tgt := 35) hx hb d_Md_clauseOfB_12 (by decide) (fun hc => ?_) (fun hc => ?_)
  · have hf := op_f hc hf
    refine lv_aload_n hx hb d_Md_clauseOfB_35 rfl (lv_at hl 0 rfl) ?_
    refine lv_sipush (v := 170) hx hb d_Md_clauseOfB_36 (by decide) ?_
    refine va_ldcS hx hb hown (tr_Md_113 C.2.2.2.2.2.2.2) d_Md_clauseOfB_39 ?_
    obtain ⟨⟨I7, R8⟩, hc6, hf⟩ := op_bind hf
    try dsimp only at hf
    refine kc_v (rest := []) C h hA (c_Md_tellsHere l n 170 9 I2 R3 (by decide)) hc6 (cbW 2 hT cd_Md_tellsHere rfl rfl ini_Md ml_Md_115 hd_Md_tellsHere ⟨Nat.le_of_ble_eq_true rfl, Nat.le_of_ble_eq_true rfl⟩) im_Md_tellsHere sp_Md_tellsHere rfl hl.1 rfl (Nat.le_of_ble_eq_true rfl) d_Md_clauseOfB_41 ⟨Nat.zero_le _, Nat.zero_le _⟩ (fun H locs h => ?_)
    exact rt_mv C h hr hlk hf d_Md_clauseOfB_44
  · have hf := op_t hc hf
    refine lv_aload_n hx hb d_Md_clauseOfB_15 rfl (lv_at hl 0 rfl) ?_
    refine va_ldcS hx hb hown (tr_Md_111 C.2.2.2.2.2.2.2) d_Md_clauseOfB_16 ?_
    obtain ⟨⟨I10, R11⟩, hc9, hf⟩ := op_bind hf
    try dsimp only at hf
    refine kc_v (rest := []) C h hA (c_Md_spells l n 8 I2 R3 (by decide)) hc9 (cbW 1 hT cd_Md_spells rfl rfl ini_Md ml_Md_107 hd_Md_spells ⟨Nat.le_of_ble_eq_true rfl, Nat.le_of_ble_eq_true rfl⟩) im_Md_spells sp_Md_spells rfl hl.1 rfl (Nat.le_of_ble_eq_true rfl) d_Md_clauseOfB_18 ⟨Nat.zero_le _, Nat.zero_le _⟩ (fun H locs h => ?_)
    refine lv_aload_n hx hb d_Md_clauseOfB_21 rfl (lv_at hl 0 rfl) ?_
    obtain ⟨⟨I13, R14⟩, hc12, hf⟩ := op_bind hf
    try dsimp only at hf
    refine kc_v (rest := []) C h hA (c_Md_someT l n I10 R11) hc12 (cbW 0 hT cd_Md_some rfl rfl ini_Md ml_Md_90 hd_Md_some ⟨Nat.le_of_ble_eq_true rfl, Nat.le_of_ble_eq_true rfl⟩) im_Md_some sp_Md_some rfl hl.1 rfl (Nat.le_of_ble_eq_true rfl) d_Md_clauseOfB_22 ⟨Nat.zero_le _, Nat.zero_le _⟩ (fun H locs h => ?_)
    refine lv_aload_n hx hb d_Md_clauseOfB_25 rfl (lv_at hl 0 rfl) ?_
    refine lv_sipush (v := (-200)) hx hb d_Md_clauseOfB_26 (by decide) ?_
    obtain ⟨⟨I16, R17⟩, hc15, hf⟩ := op_bind hf
    try dsimp only at hf
    refine kc_v (rest := []) C h hA (c_Md_emits l n (-200) I13 R14) hc15 (cbW 1 hT cd_Md_emits rfl rfl ini_Md ml_Md_87 hd_Md_emits ⟨Nat.le_of_ble_eq_true rfl, Nat.le_of_ble_eq_true rfl⟩) im_Md_emits sp_Md_emits rfl hl.1 rfl (Nat.le_of_ble_eq_true rfl) d_Md_clauseOfB_29 ⟨Nat.zero_le _, Nat.zero_le _⟩ (fun H locs h => ?_)
    refine lv_goto (tgt := 44) hx hb d_Md_clauseOfB_32 (by decide) ?_
    exact rt_mv C h hr hlk hf d_Md_clauseOfB_44
theorem hd_Md_clauseHere : y_Md_clauseHere.cls ≠ "java/lang/invoke/MethodHandle" ∧ y_Md_clauseHere.cls ≠ "java/lang/invoke/VarHandle" ∧ (parseMethodDescriptor y_Md_clauseHere.desc).map (fun d => d.parameters.length) = some 0 := by decide +kernel
theorem d_Md_clauseHere_0 : decode b_Md_clauseHere 0 = .ok (.aload_n 0, 1) := by decide +kernel
theorem d_Md_clauseHere_1 : decode b_Md_clauseHere 1 = .ok (.invokevirtual 62, 3) := by decide +kernel
theorem d_Md_clauseHere_4 : decode b_Md_clauseHere 4 = .ok (.lookupswitch 107 #[(98, 76), (104, 83), (111, 95), (115, 44)], 44) := by decide +kernel
theorem d_Md_clauseHere_48 : decode b_Md_clauseHere 48 = .ok (.aload_n 0, 1) := by decide +kernel
theorem d_Md_clauseHere_49 : decode b_Md_clauseHere 49 = .ok (.ldc 119, 2) := by decide +kernel
theorem d_Md_clauseHere_51 : decode b_Md_clauseHere 51 = .ok (.invokevirtual 107, 3) := by decide +kernel
theorem d_Md_clauseHere_54 : decode b_Md_clauseHere 54 = .ok (.aload_n 0, 1) := by decide +kernel
theorem d_Md_clauseHere_55 : decode b_Md_clauseHere 55 = .ok (.invokevirtual 101, 3) := by decide +kernel
theorem d_Md_clauseHere_58 : decode b_Md_clauseHere 58 = .ok (.istore_n 1, 1) := by decide +kernel
theorem d_Md_clauseHere_59 : decode b_Md_clauseHere 59 = .ok (.aload_n 0, 1) := by decide +kernel
theorem d_Md_clauseHere_60 : decode b_Md_clauseHere 60 = .ok (.bipush 32, 2) := by decide +kernel
theorem d_Md_clauseHere_62 : decode b_Md_clauseHere 62 = .ok (.invokevirtual 74, 3) := by decide +kernel
theorem d_Md_clauseHere_65 : decode b_Md_clauseHere 65 = .ok (.aload_n 0, 1) := by decide +kernel
theorem d_Md_clauseHere_66 : decode b_Md_clauseHere 66 = .ok (.invokevirtual 90, 3) := by decide +kernel
theorem d_Md_clauseHere_69 : decode b_Md_clauseHere 69 = .ok (.aload_n 0, 1) := by decide +kernel
theorem d_Md_clauseHere_70 : decode b_Md_clauseHere 70 = .ok (.bipush (-10), 2) := by decide +kernel
theorem d_Md_clauseHere_72 : decode b_Md_clauseHere 72 = .ok (.iload_n 1, 1) := by decide +kernel
theorem d_Md_clauseHere_73 : decode b_Md_clauseHere 73 = .ok (.isub, 1) := by decide +kernel
theorem d_Md_clauseHere_74 : decode b_Md_clauseHere 74 = .ok (.invokevirtual 87, 3) := by decide +kernel
theorem d_Md_clauseHere_77 : decode b_Md_clauseHere 77 = .ok (.goto 39, 3) := by decide +kernel
theorem d_Md_clauseHere_80 : decode b_Md_clauseHere 80 = .ok (.aload_n 0, 1) := by decide +kernel
theorem d_Md_clauseHere_81 : decode b_Md_clauseHere 81 = .ok (.invokevirtual 121, 3) := by decide +kernel
theorem d_Md_clauseHere_84 : decode b_Md_clauseHere 84 = .ok (.goto 32, 3) := by decide +kernel
theorem d_Md_clauseHere_87 : decode b_Md_clauseHere 87 = .ok (.aload_n 0, 1) := by decide +kernel
theorem d_Md_clauseHere_88 : decode b_Md_clauseHere 88 = .ok (.sipush 175, 3) := by decide +kernel
theorem d_Md_clauseHere_91 : decode b_Md_clauseHere 91 = .ok (.ldc 124, 2) := by decide +kernel
theorem d_Md_clauseHere_93 : decode b_Md_clauseHere 93 = .ok (.invokevirtual 115, 3) := by decide +kernel
theorem d_Md_clauseHere_96 : decode b_Md_clauseHere 96 = .ok (.goto 20, 3) := by decide +kernel
theorem d_Md_clauseHere_99 : decode b_Md_clauseHere 99 = .ok (.aload_n 0, 1) := by decide +kernel
theorem d_Md_clauseHere_100 : decode b_Md_clauseHere 100 = .ok (.sipush 180, 3) := by decide +kernel
theorem d_Md_clauseHere_103 : decode b_Md_clauseHere 103 = .ok (.ldc 126, 2) := by decide +kernel
theorem d_Md_clauseHere_105 : decode b_Md_clauseHere 105 = .ok (.invokevirtual 115, 3) := by decide +kernel
theorem d_Md_clauseHere_108 : decode b_Md_clauseHere 108 = .ok (.goto 8, 3) := by decide +kernel
theorem d_Md_clauseHere_111 : decode b_Md_clauseHere 111 = .ok (.aload_n 0, 1) := by decide +kernel
theorem d_Md_clauseHere_112 : decode b_Md_clauseHere 112 = .ok (.iconst 1, 1) := by decide +kernel
theorem d_Md_clauseHere_113 : decode b_Md_clauseHere 113 = .ok (.putfield 58, 3) := by decide +kernel
theorem d_Md_clauseHere_116 : decode b_Md_clauseHere 116 = .ok (.return_, 1) := by decide +kernel
def p_Md_clauseHere (n : Nat)  (I : Nat → Int32) (R : Nat → Nat → Int32) : Option (MU) := (p_Md_here n I R).bind fun x2 => (if x2 = 98 then (p_Md_clauseOfB n I R).bind fun (I4, R5) => some (I4, R5) else if x2 = 104 then (p_Md_tellsHere n 175 10 I R).bind fun (I7, R8) => some (I7, R8) else if x2 = 111 then (p_Md_tellsHere n 180 11 I R).bind fun (I10, R11) => some (I10, R11) else if x2 = 115 then (p_Md_spells n 7 I R).bind fun (I13, R14) => (p_Md_figures n I13 R14).bind fun (x18, I16, R17) => (p_Md_must n 32 I16 R17).bind fun (I20, R21) => (p_Md_someT n I20 R21).bind fun (I23, R24) => (p_Md_emits n ((-10) - x18) I23 R24).bind fun (I26, R27) => some (I26, R27) else some ((upd I 7 1), R))
set_option maxHeartbeats 4000000 in
theorem c_Md_clauseHere (l : Launch) (n : Nat)  (I : Nat → Int32) (R : Nat → Nat → Int32)  : MMv l y_Md_clauseHere b_Md_clauseHere 2 (rL 39) (fun ad adK => []) I R (p_Md_clauseHere n I R) := by
  refine en_mv (by decide) rfl (fun _ _ => Nat.le_of_ble_eq_true rfl) ?_
  intro z hf p e s m args below meth c dC dI ad cI cZ A adK adV ls C hA h hr hlk hl
  have hl : lv_has ls 2 [(0, .ref (ad 0))] := hl
  unfold p_Md_clauseHere at hf
  obtain ⟨hx, hb, hml, hown, hT, -⟩ := id C
  refine lv_aload_n hx hb d_Md_clauseHere_0 rfl (lv_at hl 0 rfl) ?_
  obtain ⟨x2, hc1, hf⟩ := op_bind hf
  refine kc_r (rest := []) C h hA (c_Md_here l n I R) hc1 (cbW 0 hT cd_Md_here rfl rfl ini_Md ml_Md_62 hd_Md_here ⟨Nat.le_of_ble_eq_true rfl, Nat.le_of_ble_eq_true rfl⟩) im_Md_here sp_Md_here rfl hl.1 rfl (Nat.le_of_ble_eq_true rfl) d_Md_clauseHere_1 ⟨Nat.zero_le _, Nat.zero_le _⟩ (fun H locs h => ?_)
  by_cases hs0 : x2 = 98
  · have hf := op_t hs0 hf
    refine lv_lookup (tgt := 80) (off := 76) hx hb d_Md_clauseHere_4 (by decide) (by rw [hs0]; decide) (by decide) ?_
    refine lv_aload_n hx hb d_Md_clauseHere_80 rfl (lv_at hl 0 rfl) ?_
    obtain ⟨⟨I4, R5⟩, hc3, hf⟩ := op_bind hf
    try dsimp only at hf
    refine kc_v (rest := []) C h hA (c_Md_clauseOfB l n I R) hc3 (cbW 0 hT cd_Md_clauseOfB rfl rfl ini_Md ml_Md_121 hd_Md_clauseOfB ⟨Nat.le_of_ble_eq_true rfl, Nat.le_of_ble_eq_true rfl⟩) im_Md_clauseOfB sp_Md_clauseOfB rfl hl.1 rfl (Nat.le_of_ble_eq_true rfl) d_Md_clauseHere_81 ⟨Nat.zero_le _, Nat.zero_le _⟩ (fun H locs h => ?_)
    refine lv_goto (tgt := 116) hx hb d_Md_clauseHere_84 (by decide) ?_
    exact rt_mv C h hr hlk hf d_Md_clauseHere_116
  · have hf := op_f hs0 hf
    by_cases hs1 : x2 = 104
    · have hf := op_t hs1 hf
      refine lv_lookup (tgt := 87) (off := 83) hx hb d_Md_clauseHere_4 (by decide) (by rw [hs1]; decide) (by decide) ?_
      refine lv_aload_n hx hb d_Md_clauseHere_87 rfl (lv_at hl 0 rfl) ?_
      refine lv_sipush (v := 175) hx hb d_Md_clauseHere_88 (by decide) ?_
      refine va_ldcS hx hb hown (tr_Md_124 C.2.2.2.2.2.2.2) d_Md_clauseHere_91 ?_
      obtain ⟨⟨I7, R8⟩, hc6, hf⟩ := op_bind hf
      try dsimp only at hf
      refine kc_v (rest := []) C h hA (c_Md_tellsHere l n 175 10 I R (by decide)) hc6 (cbW 2 hT cd_Md_tellsHere rfl rfl ini_Md ml_Md_115 hd_Md_tellsHere ⟨Nat.le_of_ble_eq_true rfl, Nat.le_of_ble_eq_true rfl⟩) im_Md_tellsHere sp_Md_tellsHere rfl hl.1 rfl (Nat.le_of_ble_eq_true rfl) d_Md_clauseHere_93 ⟨Nat.zero_le _, Nat.zero_le _⟩ (fun H locs h => ?_)
      refine lv_goto (tgt := 116) hx hb d_Md_clauseHere_96 (by decide) ?_
      exact rt_mv C h hr hlk hf d_Md_clauseHere_116
    · have hf := op_f hs1 hf
      by_cases hs2 : x2 = 111
      · have hf := op_t hs2 hf
        refine lv_lookup (tgt := 99) (off := 95) hx hb d_Md_clauseHere_4 (by decide) (by rw [hs2]; decide) (by decide) ?_
        refine lv_aload_n hx hb d_Md_clauseHere_99 rfl (lv_at hl 0 rfl) ?_
        refine lv_sipush (v := 180) hx hb d_Md_clauseHere_100 (by decide) ?_
        refine va_ldcS hx hb hown (tr_Md_126 C.2.2.2.2.2.2.2) d_Md_clauseHere_103 ?_
        obtain ⟨⟨I10, R11⟩, hc9, hf⟩ := op_bind hf
        try dsimp only at hf
        refine kc_v (rest := []) C h hA (c_Md_tellsHere l n 180 11 I R (by decide)) hc9 (cbW 2 hT cd_Md_tellsHere rfl rfl ini_Md ml_Md_115 hd_Md_tellsHere ⟨Nat.le_of_ble_eq_true rfl, Nat.le_of_ble_eq_true rfl⟩) im_Md_tellsHere sp_Md_tellsHere rfl hl.1 rfl (Nat.le_of_ble_eq_true rfl) d_Md_clauseHere_105 ⟨Nat.zero_le _, Nat.zero_le _⟩ (fun H locs h => ?_)
        refine lv_goto (tgt := 116) hx hb d_Md_clauseHere_108 (by decide) ?_
        exact rt_mv C h hr hlk hf d_Md_clauseHere_116
      · have hf := op_f hs2 hf
        by_cases hs3 : x2 = 115
        · have hf := op_t hs3 hf
          refine lv_lookup (tgt := 48) (off := 44) hx hb d_Md_clauseHere_4 (by decide) (by rw [hs3]; decide) (by decide) ?_
          refine lv_aload_n hx hb d_Md_clauseHere_48 rfl (lv_at hl 0 rfl) ?_
          refine va_ldcS hx hb hown (tr_Md_119 C.2.2.2.2.2.2.2) d_Md_clauseHere_49 ?_
          obtain ⟨⟨I13, R14⟩, hc12, hf⟩ := op_bind hf
          try dsimp only at hf
          refine kc_v (rest := []) C h hA (c_Md_spells l n 7 I R (by decide)) hc12 (cbW 1 hT cd_Md_spells rfl rfl ini_Md ml_Md_107 hd_Md_spells ⟨Nat.le_of_ble_eq_true rfl, Nat.le_of_ble_eq_true rfl⟩) im_Md_spells sp_Md_spells rfl hl.1 rfl (Nat.le_of_ble_eq_true rfl) d_Md_clauseHere_51 ⟨Nat.zero_le _, Nat.zero_le _⟩ (fun H locs h => ?_)
          refine lv_aload_n hx hb d_Md_clauseHere_54 rfl (lv_at hl 0 rfl) ?_
          obtain ⟨⟨x18, I16, R17⟩, hc15, hf⟩ := op_bind hf
          try dsimp only at hf
          refine kc_i (rest := []) C h hA (c_Md_figures l n I13 R14) hc15 (cbW 0 hT cd_Md_figures rfl rfl ini_Md ml_Md_101 hd_Md_figures ⟨Nat.le_of_ble_eq_true rfl, Nat.le_of_ble_eq_true rfl⟩) im_Md_figures sp_Md_figures rfl hl.1 rfl (Nat.le_of_ble_eq_true rfl) d_Md_clauseHere_55 ⟨Nat.zero_le _, Nat.zero_le _⟩ (fun H locs h => ?_)
          refine lv_istore_n (lv' := [(1, .int x18), (0, .ref (ad 0))]) hx hb d_Md_clauseHere_58 rfl hl (by decide) rfl (fun ls hl => ?_)
          refine lv_aload_n hx hb d_Md_clauseHere_59 rfl (lv_at hl 1 rfl) ?_
          refine lv_bipush (v := 32) hx hb d_Md_clauseHere_60 (by decide) ?_
          obtain ⟨⟨I20, R21⟩, hc19, hf⟩ := op_bind hf
          try dsimp only at hf
          refine kc_v (rest := []) C h hA (c_Md_must l n 32 I16 R17) hc19 (cbW 1 hT cd_Md_must rfl rfl ini_Md ml_Md_74 hd_Md_must ⟨Nat.le_of_ble_eq_true rfl, Nat.le_of_ble_eq_true rfl⟩) im_Md_must sp_Md_must rfl hl.1 rfl (Nat.le_of_ble_eq_true rfl) d_Md_clauseHere_62 ⟨Nat.zero_le _, Nat.zero_le _⟩ (fun H locs h => ?_)
          refine lv_aload_n hx hb d_Md_clauseHere_65 rfl (lv_at hl 1 rfl) ?_
          obtain ⟨⟨I23, R24⟩, hc22, hf⟩ := op_bind hf
          try dsimp only at hf
          refine kc_v (rest := []) C h hA (c_Md_someT l n I20 R21) hc22 (cbW 0 hT cd_Md_some rfl rfl ini_Md ml_Md_90 hd_Md_some ⟨Nat.le_of_ble_eq_true rfl, Nat.le_of_ble_eq_true rfl⟩) im_Md_some sp_Md_some rfl hl.1 rfl (Nat.le_of_ble_eq_true rfl) d_Md_clauseHere_66 ⟨Nat.zero_le _, Nat.zero_le _⟩ (fun H locs h => ?_)
          refine lv_aload_n hx hb d_Md_clauseHere_69 rfl (lv_at hl 1 rfl) ?_
          refine lv_bipush (v := (-10)) hx hb d_Md_clauseHere_70 (by decide) ?_
          refine lv_iload_n hx hb d_Md_clauseHere_72 rfl (lv_at hl 0 rfl) ?_
          refine lv_isub hx hb d_Md_clauseHere_73 ?_
          obtain ⟨⟨I26, R27⟩, hc25, hf⟩ := op_bind hf
          try dsimp only at hf
          refine kc_v (rest := []) C h hA (c_Md_emits l n ((-10) - x18) I23 R24) hc25 (cbW 1 hT cd_Md_emits rfl rfl ini_Md ml_Md_87 hd_Md_emits ⟨Nat.le_of_ble_eq_true rfl, Nat.le_of_ble_eq_true rfl⟩) im_Md_emits sp_Md_emits rfl hl.1 rfl (Nat.le_of_ble_eq_true rfl) d_Md_clauseHere_74 ⟨Nat.zero_le _, Nat.zero_le _⟩ (fun H locs h => ?_)
          refine lv_goto (tgt := 116) hx hb d_Md_clauseHere_77 (by decide) ?_
          exact rt_mv C h hr hlk hf d_Md_clauseHere_116
        · have hf := op_f hs3 hf
          have et0 := tn_ne2 (v := 98) (by decide) hs0
          have et1 := tn_ne2 (v := 104) (by decide) hs1
          have et2 := tn_ne2 (v := 111) (by decide) hs2
          have et3 := tn_ne2 (v := 115) (by decide) hs3
          refine lv_lookup (tgt := 111) (off := 107) hx hb d_Md_clauseHere_4 (by decide) (by simp [Op.lookupswitch.offset, et0, et1, et2, et3]) (by decide) ?_
          refine lv_aload_n hx hb d_Md_clauseHere_111 rfl (lv_at hl 0 rfl) ?_
          refine lv_iconst (v := 1) hx hb d_Md_clauseHere_112 (by decide) ?_
          refine mp_7 C h (by decide) d_Md_clauseHere_113 (fun H locs h => ?_)
          exact rt_mv C h hr hlk hf d_Md_clauseHere_116
theorem hd_Md_night : y_Md_night.cls ≠ "java/lang/invoke/MethodHandle" ∧ y_Md_night.cls ≠ "java/lang/invoke/VarHandle" ∧ (parseMethodDescriptor y_Md_night.desc).map (fun d => d.parameters.length) = some 0 := by decide +kernel
theorem d_Md_night_0 : decode b_Md_night 0 = .ok (.aload_n 0, 1) := by decide +kernel
theorem d_Md_night_1 : decode b_Md_night 1 = .ok (.getfield 9, 3) := by decide +kernel
theorem d_Md_night_4 : decode b_Md_night 4 = .ok (.iconst 1, 1) := by decide +kernel
theorem d_Md_night_5 : decode b_Md_night 5 = .ok (.iaload, 1) := by decide +kernel
theorem d_Md_night_6 : decode b_Md_night 6 = .ok (.iconst 5, 1) := by decide +kernel
theorem d_Md_night_7 : decode b_Md_night 7 = .ok (.if_icmp .ne 6, 3) := by decide +kernel
theorem d_Md_night_10 : decode b_Md_night 10 = .ok (.bipush (-4), 2) := by decide +kernel
theorem d_Md_night_12 : decode b_Md_night 12 = .ok (.ireturn, 1) := by decide +kernel
theorem d_Md_night_13 : decode b_Md_night 13 = .ok (.aload_n 0, 1) := by decide +kernel
theorem d_Md_night_14 : decode b_Md_night 14 = .ok (.aload_n 0, 1) := by decide +kernel
theorem d_Md_night_15 : decode b_Md_night 15 = .ok (.getfield 9, 3) := by decide +kernel
theorem d_Md_night_18 : decode b_Md_night 18 = .ok (.iconst 1, 1) := by decide +kernel
theorem d_Md_night_19 : decode b_Md_night 19 = .ok (.iaload, 1) := by decide +kernel
theorem d_Md_night_20 : decode b_Md_night 20 = .ok (.putfield 78, 3) := by decide +kernel
theorem d_Md_night_23 : decode b_Md_night 23 = .ok (.aload_n 0, 1) := by decide +kernel
theorem d_Md_night_24 : decode b_Md_night 24 = .ok (.aload_n 0, 1) := by decide +kernel
theorem d_Md_night_25 : decode b_Md_night 25 = .ok (.getfield 9, 3) := by decide +kernel
theorem d_Md_night_28 : decode b_Md_night 28 = .ok (.iconst 4, 1) := by decide +kernel
theorem d_Md_night_29 : decode b_Md_night 29 = .ok (.iaload, 1) := by decide +kernel
theorem d_Md_night_30 : decode b_Md_night 30 = .ok (.putfield 55, 3) := by decide +kernel
theorem d_Md_night_33 : decode b_Md_night 33 = .ok (.aload_n 0, 1) := by decide +kernel
theorem d_Md_night_34 : decode b_Md_night 34 = .ok (.getfield 9, 3) := by decide +kernel
theorem d_Md_night_37 : decode b_Md_night 37 = .ok (.iconst 4, 1) := by decide +kernel
theorem d_Md_night_38 : decode b_Md_night 38 = .ok (.iconst 0, 1) := by decide +kernel
theorem d_Md_night_39 : decode b_Md_night 39 = .ok (.iastore, 1) := by decide +kernel
theorem d_Md_night_40 : decode b_Md_night 40 = .ok (.aload_n 0, 1) := by decide +kernel
theorem d_Md_night_41 : decode b_Md_night 41 = .ok (.getfield 9, 3) := by decide +kernel
theorem d_Md_night_44 : decode b_Md_night 44 = .ok (.sipush 170, 3) := by decide +kernel
theorem d_Md_night_47 : decode b_Md_night 47 = .ok (.aload_n 0, 1) := by decide +kernel
theorem d_Md_night_48 : decode b_Md_night 48 = .ok (.getfield 78, 3) := by decide +kernel
theorem d_Md_night_51 : decode b_Md_night 51 = .ok (.iadd, 1) := by decide +kernel
theorem d_Md_night_52 : decode b_Md_night 52 = .ok (.iconst 2, 1) := by decide +kernel
theorem d_Md_night_53 : decode b_Md_night 53 = .ok (.iastore, 1) := by decide +kernel
theorem d_Md_night_54 : decode b_Md_night 54 = .ok (.aload_n 0, 1) := by decide +kernel
theorem d_Md_night_55 : decode b_Md_night 55 = .ok (.getfield 9, 3) := by decide +kernel
theorem d_Md_night_58 : decode b_Md_night 58 = .ok (.sipush 175, 3) := by decide +kernel
theorem d_Md_night_61 : decode b_Md_night 61 = .ok (.aload_n 0, 1) := by decide +kernel
theorem d_Md_night_62 : decode b_Md_night 62 = .ok (.getfield 78, 3) := by decide +kernel
theorem d_Md_night_65 : decode b_Md_night 65 = .ok (.iadd, 1) := by decide +kernel
theorem d_Md_night_66 : decode b_Md_night 66 = .ok (.bipush 99, 2) := by decide +kernel
theorem d_Md_night_68 : decode b_Md_night 68 = .ok (.iastore, 1) := by decide +kernel
theorem d_Md_night_69 : decode b_Md_night 69 = .ok (.aload_n 0, 1) := by decide +kernel
theorem d_Md_night_70 : decode b_Md_night 70 = .ok (.getfield 9, 3) := by decide +kernel
theorem d_Md_night_73 : decode b_Md_night 73 = .ok (.sipush 180, 3) := by decide +kernel
theorem d_Md_night_76 : decode b_Md_night 76 = .ok (.aload_n 0, 1) := by decide +kernel
theorem d_Md_night_77 : decode b_Md_night 77 = .ok (.getfield 78, 3) := by decide +kernel
theorem d_Md_night_80 : decode b_Md_night 80 = .ok (.iadd, 1) := by decide +kernel
theorem d_Md_night_81 : decode b_Md_night 81 = .ok (.iconst 0, 1) := by decide +kernel
theorem d_Md_night_82 : decode b_Md_night 82 = .ok (.iastore, 1) := by decide +kernel
theorem d_Md_night_83 : decode b_Md_night 83 = .ok (.aload_n 0, 1) := by decide +kernel
theorem d_Md_night_84 : decode b_Md_night 84 = .ok (.getfield 9, 3) := by decide +kernel
theorem d_Md_night_87 : decode b_Md_night 87 = .ok (.sipush 185, 3) := by decide +kernel
theorem d_Md_night_90 : decode b_Md_night 90 = .ok (.aload_n 0, 1) := by decide +kernel
theorem d_Md_night_91 : decode b_Md_night 91 = .ok (.getfield 78, 3) := by decide +kernel
theorem d_Md_night_94 : decode b_Md_night 94 = .ok (.iadd, 1) := by decide +kernel
theorem d_Md_night_95 : decode b_Md_night 95 = .ok (.iconst 0, 1) := by decide +kernel
theorem d_Md_night_96 : decode b_Md_night 96 = .ok (.iastore, 1) := by decide +kernel
theorem d_Md_night_97 : decode b_Md_night 97 = .ok (.aload_n 0, 1) := by decide +kernel
theorem d_Md_night_98 : decode b_Md_night 98 = .ok (.iconst 0, 1) := by decide +kernel
theorem d_Md_night_99 : decode b_Md_night 99 = .ok (.putfield 52, 3) := by decide +kernel
theorem d_Md_night_102 : decode b_Md_night 102 = .ok (.aload_n 0, 1) := by decide +kernel
theorem d_Md_night_103 : decode b_Md_night 103 = .ok (.iconst 0, 1) := by decide +kernel
theorem d_Md_night_104 : decode b_Md_night 104 = .ok (.putfield 58, 3) := by decide +kernel
theorem d_Md_night_107 : decode b_Md_night 107 = .ok (.aload_n 0, 1) := by decide +kernel
theorem d_Md_night_108 : decode b_Md_night 108 = .ok (.iconst 0, 1) := by decide +kernel
theorem d_Md_night_109 : decode b_Md_night 109 = .ok (.putfield 81, 3) := by decide +kernel
theorem d_Md_night_112 : decode b_Md_night 112 = .ok (.iconst 1, 1) := by decide +kernel
theorem d_Md_night_113 : decode b_Md_night 113 = .ok (.istore_n 1, 1) := by decide +kernel
theorem d_Md_night_114 : decode b_Md_night 114 = .ok (.aload_n 0, 1) := by decide +kernel
theorem d_Md_night_115 : decode b_Md_night 115 = .ok (.invokevirtual 128, 3) := by decide +kernel
theorem d_Md_night_118 : decode b_Md_night 118 = .ok (.aload_n 0, 1) := by decide +kernel
theorem d_Md_night_119 : decode b_Md_night 119 = .ok (.getfield 58, 3) := by decide +kernel
theorem d_Md_night_122 : decode b_Md_night 122 = .ok (.ifCond .ne 38, 3) := by decide +kernel
theorem d_Md_night_125 : decode b_Md_night 125 = .ok (.iload_n 1, 1) := by decide +kernel
theorem d_Md_night_126 : decode b_Md_night 126 = .ok (.bipush 10, 2) := by decide +kernel
theorem d_Md_night_128 : decode b_Md_night 128 = .ok (.if_icmp .ge 32, 3) := by decide +kernel
theorem d_Md_night_131 : decode b_Md_night 131 = .ok (.aload_n 0, 1) := by decide +kernel
theorem d_Md_night_132 : decode b_Md_night 132 = .ok (.invokevirtual 62, 3) := by decide +kernel
theorem d_Md_night_135 : decode b_Md_night 135 = .ok (.bipush 59, 2) := by decide +kernel
theorem d_Md_night_137 : decode b_Md_night 137 = .ok (.if_icmp .ne 23, 3) := by decide +kernel
theorem d_Md_night_140 : decode b_Md_night 140 = .ok (.aload_n 0, 1) := by decide +kernel
theorem d_Md_night_141 : decode b_Md_night 141 = .ok (.dup, 1) := by decide +kernel
theorem d_Md_night_142 : decode b_Md_night 142 = .ok (.getfield 52, 3) := by decide +kernel
theorem d_Md_night_145 : decode b_Md_night 145 = .ok (.iconst 1, 1) := by decide +kernel
theorem d_Md_night_146 : decode b_Md_night 146 = .ok (.iadd, 1) := by decide +kernel
theorem d_Md_night_147 : decode b_Md_night 147 = .ok (.putfield 52, 3) := by decide +kernel
theorem d_Md_night_150 : decode b_Md_night 150 = .ok (.aload_n 0, 1) := by decide +kernel
theorem d_Md_night_151 : decode b_Md_night 151 = .ok (.invokevirtual 128, 3) := by decide +kernel
theorem d_Md_night_154 : decode b_Md_night 154 = .ok (.iinc 1 1, 3) := by decide +kernel
theorem d_Md_night_157 : decode b_Md_night 157 = .ok (.goto (-39), 3) := by decide +kernel
theorem d_Md_night_160 : decode b_Md_night 160 = .ok (.aload_n 0, 1) := by decide +kernel
theorem d_Md_night_161 : decode b_Md_night 161 = .ok (.getfield 58, 3) := by decide +kernel
theorem d_Md_night_164 : decode b_Md_night 164 = .ok (.ifCond .ne 14, 3) := by decide +kernel
theorem d_Md_night_167 : decode b_Md_night 167 = .ok (.aload_n 0, 1) := by decide +kernel
theorem d_Md_night_168 : decode b_Md_night 168 = .ok (.getfield 52, 3) := by decide +kernel
theorem d_Md_night_171 : decode b_Md_night 171 = .ok (.aload_n 0, 1) := by decide +kernel
theorem d_Md_night_172 : decode b_Md_night 172 = .ok (.getfield 55, 3) := by decide +kernel
theorem d_Md_night_175 : decode b_Md_night 175 = .ok (.if_icmp .eq 11, 3) := by decide +kernel
theorem d_Md_night_178 : decode b_Md_night 178 = .ok (.bipush (-10), 2) := by decide +kernel
theorem d_Md_night_180 : decode b_Md_night 180 = .ok (.aload_n 0, 1) := by decide +kernel
theorem d_Md_night_181 : decode b_Md_night 181 = .ok (.getfield 52, 3) := by decide +kernel
theorem d_Md_night_184 : decode b_Md_night 184 = .ok (.isub, 1) := by decide +kernel
theorem d_Md_night_185 : decode b_Md_night 185 = .ok (.ireturn, 1) := by decide +kernel
theorem d_Md_night_186 : decode b_Md_night 186 = .ok (.aload_n 0, 1) := by decide +kernel
theorem d_Md_night_187 : decode b_Md_night 187 = .ok (.getfield 9, 3) := by decide +kernel
theorem d_Md_night_190 : decode b_Md_night 190 = .ok (.iconst 1, 1) := by decide +kernel
theorem d_Md_night_191 : decode b_Md_night 191 = .ok (.dup2, 1) := by decide +kernel
theorem d_Md_night_192 : decode b_Md_night 192 = .ok (.iaload, 1) := by decide +kernel
theorem d_Md_night_193 : decode b_Md_night 193 = .ok (.iconst 1, 1) := by decide +kernel
theorem d_Md_night_194 : decode b_Md_night 194 = .ok (.iadd, 1) := by decide +kernel
theorem d_Md_night_195 : decode b_Md_night 195 = .ok (.iastore, 1) := by decide +kernel
theorem d_Md_night_196 : decode b_Md_night 196 = .ok (.aload_n 0, 1) := by decide +kernel
theorem d_Md_night_197 : decode b_Md_night 197 = .ok (.getfield 9, 3) := by decide +kernel
theorem d_Md_night_200 : decode b_Md_night 200 = .ok (.iconst 5, 1) := by decide +kernel
theorem d_Md_night_201 : decode b_Md_night 201 = .ok (.aload_n 0, 1) := by decide +kernel
theorem d_Md_night_202 : decode b_Md_night 202 = .ok (.getfield 78, 3) := by decide +kernel
theorem d_Md_night_205 : decode b_Md_night 205 = .ok (.iastore, 1) := by decide +kernel
theorem d_Md_night_206 : decode b_Md_night 206 = .ok (.aload_n 0, 1) := by decide +kernel
theorem d_Md_night_207 : decode b_Md_night 207 = .ok (.getfield 78, 3) := by decide +kernel
theorem d_Md_night_210 : decode b_Md_night 210 = .ok (.ireturn, 1) := by decide +kernel
def l_Md_night_118 (n : Nat)    : Nat → Int32 → (Nat → Int32) → (Nat → Nat → Int32) → Option ((Nat → Int32) × (Nat → Nat → Int32))
  | 0, _, _, _ => none
  | k + 1, v1, I, R => (if (I 7) = 0 then (if 10 ≤ v1 then some (I, R) else (p_Md_here n I R).bind fun x9 => (if x9 = 59 then (p_Md_clauseHere n (upd I 5 ((I 5) + 1)) R).bind fun (I11, R12) => l_Md_night_118 n k (v1 + 1) I11 R12 else some (I, R))) else some (I, R))
set_option maxHeartbeats 4000000 in
theorem wl_Md_night_118 {Q : State → Prop}  {p : Program} {l : Launch} {e : Env} {s : State} {m : MethodId} {args : Array Value} {below : List Frame} {meth : Method} {c : Code} {dC : Nat → ClassId} {dI : Nat → Nat → Nat} {ad : Nat → Nat} {cI cZ : ClassId} {A : Nat → Prop} {adK adV : Nat → Nat} (C : mC p s m args c b_Md_night 2 dC dI cI cZ A adK adV) (hA : ∀ q, s.heap.size ≤ q → A q) (hr : meth.sig.returnType = some .int) (hlk : meth.locks = false) (n : Nat)    : ∀ (k : Nat) (v1 : Int32) (I : Nat → Int32) (R : Nat → Nat → Int32) (r0 : Nat → Int32) (r1 : Nat → Nat → Int32), l_Md_night_118 n k v1 I R = some (r0, r1) → (∀ (ls : Array Slot), lv_has ls 2 [(0, .ref (ad 0))] → ∀ (H : Heap) (locs : List Loc), mH A s.heap dC dI ad cI cZ r0 r1 H locs → W p l e (rL 40) s m args below meth c H locs 0 0 Q (F0 m 160 ls [])) → ∀ (ls : Array Slot), lv_has ls 2 [(0, .ref (ad 0)), (1, .int v1)] → ∀ (H : Heap) (locs : List Loc), mH A s.heap dC dI ad cI cZ I R H locs → W p l e (rL 40) s m args below meth c H locs 0 0 Q (F0 m 118 ls []) := by
  obtain ⟨hx, hb, hml, hown, hT, -⟩ := id C
  intro k
  induction k with
  | zero => intro v1 I R r0 r1 hf; exact absurd hf (by unfold l_Md_night_118; exact fun h9 => by cases h9)
  | succ k ih =>
    intro v1 I R r0 r1 hf K ls hl H locs h
    unfold l_Md_night_118 at hf
    refine lv_aload_n hx hb d_Md_night_118 rfl (lv_at hl 0 rfl) ?_
    refine mg_7 C h d_Md_night_119 ?_
    refine lv_if_ne (tgt := 160) hx hb d_Md_night_122 (by decide) (fun hc => ?_) (fun hc => ?_)
    · have hf := op_f hc hf
      obtain ⟨rfl, rfl⟩ := op_i2 hf
      exact K ls (lv_sub hl [0] rfl) H locs h
    · have hf := op_t hc hf
      refine lv_iload_n hx hb d_Md_night_125 rfl (lv_at hl 1 rfl) ?_
      refine lv_bipush (v := 10) hx hb d_Md_night_126 (by decide) ?_
      refine lv_icmp_ge (tgt := 160) hx hb d_Md_night_128 (by decide) (fun hc => ?_) (fun hc => ?_)
      · have hf := op_t hc hf
        obtain ⟨rfl, rfl⟩ := op_i2 hf
        exact K ls (lv_sub hl [0] rfl) H locs h
      · have hf := op_f hc hf
        refine lv_aload_n hx hb d_Md_night_131 rfl (lv_at hl 0 rfl) ?_
        obtain ⟨x9, hc8, hf⟩ := op_bind hf
        refine kc_r (rest := []) C h hA (c_Md_here l n I R) hc8 (cbW 0 hT cd_Md_here rfl rfl ini_Md ml_Md_62 hd_Md_here ⟨Nat.le_of_ble_eq_true rfl, Nat.le_of_ble_eq_true rfl⟩) im_Md_here sp_Md_here rfl hl.1 rfl (Nat.le_of_ble_eq_true rfl) d_Md_night_132 ⟨Nat.zero_le _, Nat.zero_le _⟩ (fun H locs h => ?_)
        refine lv_bipush (v := 59) hx hb d_Md_night_135 (by decide) ?_
        refine lv_icmp_ne (tgt := 160) hx hb d_Md_night_137 (by decide) (fun hc => ?_) (fun hc => ?_)
        · have hf := op_f hc hf
          obtain ⟨rfl, rfl⟩ := op_i2 hf
          exact K ls (lv_sub hl [0] rfl) H locs h
        · have hf := op_t hc hf
          refine lv_aload_n hx hb d_Md_night_140 rfl (lv_at hl 0 rfl) ?_
          refine lv_dup hx hb d_Md_night_141 rfl ?_
          refine mg_5 C h d_Md_night_142 ?_
          refine lv_iconst (v := 1) hx hb d_Md_night_145 (by decide) ?_
          refine lv_iadd hx hb d_Md_night_146 ?_
          refine mp_5 C h d_Md_night_147 (fun H locs h => ?_)
          refine lv_aload_n hx hb d_Md_night_150 rfl (lv_at hl 0 rfl) ?_
          obtain ⟨⟨I11, R12⟩, hc10, hf⟩ := op_bind hf
          try dsimp only at hf
          refine kc_v (rest := []) C h hA (c_Md_clauseHere l n (upd I 5 ((I 5) + 1)) R) hc10 (cbW 0 hT cd_Md_clauseHere rfl rfl ini_Md ml_Md_128 hd_Md_clauseHere ⟨Nat.le_of_ble_eq_true rfl, Nat.le_of_ble_eq_true rfl⟩) im_Md_clauseHere sp_Md_clauseHere rfl hl.1 rfl (Nat.le_of_ble_eq_true rfl) d_Md_night_151 ⟨Nat.zero_le _, Nat.zero_le _⟩ (fun H locs h => ?_)
          refine lv_iinc (v := (v1 + 1)) (lv' := [(1, .int (v1 + 1)), (0, .ref (ad 0))]) hx hb d_Md_night_154 hl (k := 1) rfl rfl (by decide) rfl (fun ls hl => ?_)
          refine lv_goto (tgt := 118) hx hb d_Md_night_157 (by decide) ?_
          exact ih (v1 + 1) I11 R12 _ _ hf K ls (lv_sub hl [1, 0] rfl) H locs h
def p_Md_night (n : Nat)  (I : Nat → Int32) (R : Nat → Nat → Int32) : Option (Int32 × MU) := (if (R 1 1) = 5 then some ((-4), I, R) else if ix ((170 + (((upd (upd I 4 (R 1 1)) 6 (R 1 4))) 4))) 890 then if ix ((175 + (((upd (upd I 4 (R 1 1)) 6 (R 1 4))) 4))) 890 then if ix ((180 + (((upd (upd I 4 (R 1 1)) 6 (R 1 4))) 4))) 890 then if ix ((185 + (((upd (upd I 4 (R 1 1)) 6 (R 1 4))) 4))) 890 then (p_Md_clauseHere n ((upd (upd (upd (upd (upd I 4 (R 1 1)) 6 (R 1 4)) 5 0) 7 0) 8 0)) ((upR (upR (upR (upR (upR R 1 4 0) 1 ((170 + (((upd (upd I 4 (R 1 1)) 6 (R 1 4))) 4))).toNatClampNeg 2) 1 ((175 + (((upd (upd I 4 (R 1 1)) 6 (R 1 4))) 4))).toNatClampNeg 99) 1 ((180 + (((upd (upd I 4 (R 1 1)) 6 (R 1 4))) 4))).toNatClampNeg 0) 1 ((185 + (((upd (upd I 4 (R 1 1)) 6 (R 1 4))) 4))).toNatClampNeg 0))).bind fun (I6, R7) => (l_Md_night_118 n n 1 I6 R7).bind fun (I13, R14) => (if (I13 7) = 0 then (if (I13 5) = (I13 6) then some ((I13 4), I13, (upR (upR R14 1 1 ((R14 1 1) + 1)) 1 5 (I13 4))) else some (((-10) - (I13 5)), I13, R14)) else some (((-10) - (I13 5)), I13, R14)) else none else none else none else none)
set_option maxHeartbeats 4000000 in
theorem c_Md_night (l : Launch) (n : Nat)  (I : Nat → Int32) (R : Nat → Nat → Int32)  : MMi l y_Md_night b_Md_night 2 .int (rL 40) (fun ad adK => []) I R (p_Md_night n I R) := by
  refine en_mi (by decide) rfl (fun _ _ => Nat.le_of_ble_eq_true rfl) ?_
  intro z hf p e s m args below meth c dC dI ad cI cZ A adK adV ls C hA h hr hlk hl
  have hl : lv_has ls 2 [(0, .ref (ad 0))] := hl
  unfold p_Md_night at hf
  obtain ⟨hx, hb, hml, hown, hT, -⟩ := id C
  refine lv_aload_n hx hb d_Md_night_0 rfl (lv_at hl 0 rfl) ?_
  refine mg_1 C h d_Md_night_1 ?_
  refine lv_iconst (v := 1) hx hb d_Md_night_4 (by decide) ?_
  refine ma_1 C h (j := 1) (by decide) (show ix 1 890 by decide) d_Md_night_5 ?_
  refine lv_iconst (v := 5) hx hb d_Md_night_6 (by decide) ?_
  refine lv_icmp_ne (tgt := 13) hx hb d_Md_night_7 (by decide) (fun hc => ?_) (fun hc => ?_)
  · have hf := op_f hc hf
    refine lv_aload_n hx hb d_Md_night_13 rfl (lv_at hl 0 rfl) ?_
    refine lv_aload_n hx hb d_Md_night_14 rfl (lv_at hl 0 rfl) ?_
    refine mg_1 C h d_Md_night_15 ?_
    refine lv_iconst (v := 1) hx hb d_Md_night_18 (by decide) ?_
    refine ma_1 C h (j := 1) (by decide) (show ix 1 890 by decide) d_Md_night_19 ?_
    refine mp_4 C h d_Md_night_20 (fun H locs h => ?_)
    refine lv_aload_n hx hb d_Md_night_23 rfl (lv_at hl 0 rfl) ?_
    refine lv_aload_n hx hb d_Md_night_24 rfl (lv_at hl 0 rfl) ?_
    refine mg_1 C h d_Md_night_25 ?_
    refine lv_iconst (v := 4) hx hb d_Md_night_28 (by decide) ?_
    refine ma_1 C h (j := 4) (by decide) (show ix 4 890 by decide) d_Md_night_29 ?_
    refine mp_6 C h d_Md_night_30 (fun H locs h => ?_)
    refine lv_aload_n hx hb d_Md_night_33 rfl (lv_at hl 0 rfl) ?_
    refine mg_1 C h d_Md_night_34 ?_
    refine lv_iconst (v := 4) hx hb d_Md_night_37 (by decide) ?_
    refine lv_iconst (v := 0) hx hb d_Md_night_38 (by decide) ?_
    refine ms_1 C h (j := 4) (by decide) (show ix 4 890 by decide) d_Md_night_39 (fun H locs h => ?_)
    refine lv_aload_n hx hb d_Md_night_40 rfl (lv_at hl 0 rfl) ?_
    refine mg_1 C h d_Md_night_41 ?_
    refine lv_sipush (v := 170) hx hb d_Md_night_44 (by decide) ?_
    refine lv_aload_n hx hb d_Md_night_47 rfl (lv_at hl 0 rfl) ?_
    refine mg_4 C h d_Md_night_48 ?_
    refine lv_iadd hx hb d_Md_night_51 ?_
    refine lv_iconst (v := 2) hx hb d_Md_night_52 (by decide) ?_
    obtain ⟨h1, hf⟩ := op_if hf
    refine ms_1 C h rfl h1 d_Md_night_53 (fun H locs h => ?_)
    refine lv_aload_n hx hb d_Md_night_54 rfl (lv_at hl 0 rfl) ?_
    refine mg_1 C h d_Md_night_55 ?_
    refine lv_sipush (v := 175) hx hb d_Md_night_58 (by decide) ?_
    refine lv_aload_n hx hb d_Md_night_61 rfl (lv_at hl 0 rfl) ?_
    refine mg_4 C h d_Md_night_62 ?_
    refine lv_iadd hx hb d_Md_night_65 ?_
    refine lv_bipush (v := 99) hx hb d_Md_night_66 (by decide) ?_
    obtain ⟨h2, hf⟩ := op_if hf
    refine ms_1 C h rfl h2 d_Md_night_68 (fun H locs h => ?_)
    refine lv_aload_n hx hb d_Md_night_69 rfl (lv_at hl 0 rfl) ?_
    refine mg_1 C h d_Md_night_70 ?_
    refine lv_sipush (v := 180) hx hb d_Md_night_73 (by decide) ?_
    refine lv_aload_n hx hb d_Md_night_76 rfl (lv_at hl 0 rfl) ?_
    refine mg_4 C h d_Md_night_77 ?_
    refine lv_iadd hx hb d_Md_night_80 ?_
    refine lv_iconst (v := 0) hx hb d_Md_night_81 (by decide) ?_
    obtain ⟨h3, hf⟩ := op_if hf
    refine ms_1 C h rfl h3 d_Md_night_82 (fun H locs h => ?_)
    refine lv_aload_n hx hb d_Md_night_83 rfl (lv_at hl 0 rfl) ?_
    refine mg_1 C h d_Md_night_84 ?_
    refine lv_sipush (v := 185) hx hb d_Md_night_87 (by decide) ?_
    refine lv_aload_n hx hb d_Md_night_90 rfl (lv_at hl 0 rfl) ?_
    refine mg_4 C h d_Md_night_91 ?_
    refine lv_iadd hx hb d_Md_night_94 ?_
    refine lv_iconst (v := 0) hx hb d_Md_night_95 (by decide) ?_
    obtain ⟨h4, hf⟩ := op_if hf
    refine ms_1 C h rfl h4 d_Md_night_96 (fun H locs h => ?_)
    refine lv_aload_n hx hb d_Md_night_97 rfl (lv_at hl 0 rfl) ?_
    refine lv_iconst (v := 0) hx hb d_Md_night_98 (by decide) ?_
    refine mp_5 C h d_Md_night_99 (fun H locs h => ?_)
    refine lv_aload_n hx hb d_Md_night_102 rfl (lv_at hl 0 rfl) ?_
    refine lv_iconst (v := 0) hx hb d_Md_night_103 (by decide) ?_
    refine mp_7 C h (by decide) d_Md_night_104 (fun H locs h => ?_)
    refine lv_aload_n hx hb d_Md_night_107 rfl (lv_at hl 0 rfl) ?_
    refine lv_iconst (v := 0) hx hb d_Md_night_108 (by decide) ?_
    refine mp_8 C h d_Md_night_109 (fun H locs h => ?_)
    refine lv_iconst (v := 1) hx hb d_Md_night_112 (by decide) ?_
    refine lv_istore_n (lv' := [(1, .int 1), (0, .ref (ad 0))]) hx hb d_Md_night_113 rfl hl (by decide) rfl (fun ls hl => ?_)
    refine lv_aload_n hx hb d_Md_night_114 rfl (lv_at hl 1 rfl) ?_
    obtain ⟨⟨I6, R7⟩, hc5, hf⟩ := op_bind hf
    try dsimp only at hf
    refine kc_v (rest := []) C h hA (c_Md_clauseHere l n ((upd (upd (upd (upd (upd I 4 (R 1 1)) 6 (R 1 4)) 5 0) 7 0) 8 0)) ((upR (upR (upR (upR (upR R 1 4 0) 1 ((170 + (((upd (upd I 4 (R 1 1)) 6 (R 1 4))) 4))).toNatClampNeg 2) 1 ((175 + (((upd (upd I 4 (R 1 1)) 6 (R 1 4))) 4))).toNatClampNeg 99) 1 ((180 + (((upd (upd I 4 (R 1 1)) 6 (R 1 4))) 4))).toNatClampNeg 0) 1 ((185 + (((upd (upd I 4 (R 1 1)) 6 (R 1 4))) 4))).toNatClampNeg 0))) hc5 (cbW 0 hT cd_Md_clauseHere rfl rfl ini_Md ml_Md_128 hd_Md_clauseHere ⟨Nat.le_of_ble_eq_true rfl, Nat.le_of_ble_eq_true rfl⟩) im_Md_clauseHere sp_Md_clauseHere rfl hl.1 rfl (Nat.le_of_ble_eq_true rfl) d_Md_night_115 ⟨Nat.zero_le _, Nat.zero_le _⟩ (fun H locs h => ?_)
    obtain ⟨⟨I13, R14⟩, he, hf⟩ := op_bind hf
    try dsimp only at hf
    refine wl_Md_night_118 C hA hr hlk n  n 1 I6 R7 _ _ he (fun ls hl H locs h => ?_) ls (lv_sub hl [1, 0] rfl) H locs h
    refine lv_aload_n hx hb d_Md_night_160 rfl (lv_at hl 0 rfl) ?_
    refine mg_7 C h d_Md_night_161 ?_
    refine lv_if_ne (tgt := 178) hx hb d_Md_night_164 (by decide) (fun hc => ?_) (fun hc => ?_)
    · have hf := op_f hc hf
      refine lv_bipush (v := (-10)) hx hb d_Md_night_178 (by decide) ?_
      refine lv_aload_n hx hb d_Md_night_180 rfl (lv_at hl 0 rfl) ?_
      refine mg_5 C h d_Md_night_181 ?_
      refine lv_isub hx hb d_Md_night_184 ?_
      exact rt_mi C h hr hlk hf rfl d_Md_night_185
    · have hf := op_t hc hf
      refine lv_aload_n hx hb d_Md_night_167 rfl (lv_at hl 0 rfl) ?_
      refine mg_5 C h d_Md_night_168 ?_
      refine lv_aload_n hx hb d_Md_night_171 rfl (lv_at hl 0 rfl) ?_
      refine mg_6 C h d_Md_night_172 ?_
      refine lv_icmp_eq (tgt := 186) hx hb d_Md_night_175 (by decide) (fun hc => ?_) (fun hc => ?_)
      · have hf := op_t hc hf
        refine lv_aload_n hx hb d_Md_night_186 rfl (lv_at hl 0 rfl) ?_
        refine mg_1 C h d_Md_night_187 ?_
        refine lv_iconst (v := 1) hx hb d_Md_night_190 (by decide) ?_
        refine lv_dup2_11 hx hb d_Md_night_191 rfl rfl ?_
        refine ma_1 C h (j := 1) (by decide) (show ix 1 890 by decide) d_Md_night_192 ?_
        refine lv_iconst (v := 1) hx hb d_Md_night_193 (by decide) ?_
        refine lv_iadd hx hb d_Md_night_194 ?_
        refine ms_1 C h (j := 1) (by decide) (show ix 1 890 by decide) d_Md_night_195 (fun H locs h => ?_)
        refine lv_aload_n hx hb d_Md_night_196 rfl (lv_at hl 0 rfl) ?_
        refine mg_1 C h d_Md_night_197 ?_
        refine lv_iconst (v := 5) hx hb d_Md_night_200 (by decide) ?_
        refine lv_aload_n hx hb d_Md_night_201 rfl (lv_at hl 0 rfl) ?_
        refine mg_4 C h d_Md_night_202 ?_
        refine ms_1 C h (j := 5) (by decide) (show ix 5 890 by decide) d_Md_night_205 (fun H locs h => ?_)
        refine lv_aload_n hx hb d_Md_night_206 rfl (lv_at hl 0 rfl) ?_
        refine mg_4 C h d_Md_night_207 ?_
        exact rt_mi C h hr hlk hf rfl d_Md_night_210
      · have hf := op_f hc hf
        refine lv_bipush (v := (-10)) hx hb d_Md_night_178 (by decide) ?_
        refine lv_aload_n hx hb d_Md_night_180 rfl (lv_at hl 0 rfl) ?_
        refine mg_5 C h d_Md_night_181 ?_
        refine lv_isub hx hb d_Md_night_184 ?_
        exact rt_mi C h hr hlk hf rfl d_Md_night_185
  · have hf := op_t hc hf
    refine lv_bipush (v := (-4)) hx hb d_Md_night_10 (by decide) ?_
    exact rt_mi C h hr hlk hf rfl d_Md_night_12
