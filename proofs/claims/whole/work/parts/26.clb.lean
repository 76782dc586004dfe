theorem hd_Go_layFacts : y_Go_layFacts.cls ≠ "java/lang/invoke/MethodHandle" ∧ y_Go_layFacts.cls ≠ "java/lang/invoke/VarHandle" ∧ (parseMethodDescriptor y_Go_layFacts.desc).map (fun d => d.parameters.length) = some 3 := by decide +kernel
theorem d_Go_layFacts_0 : decode b_Go_layFacts 0 = .ok (.bipush 9, 2) := by decide +kernel
theorem d_Go_layFacts_2 : decode b_Go_layFacts 2 = .ok (.istore 4, 2) := by decide +kernel
theorem d_Go_layFacts_4 : decode b_Go_layFacts 4 = .ok (.aload_n 0, 1) := by decide +kernel
theorem d_Go_layFacts_5 : decode b_Go_layFacts 5 = .ok (.getfield 45, 3) := by decide +kernel
theorem d_Go_layFacts_8 : decode b_Go_layFacts 8 = .ok (.iconst 1, 1) := by decide +kernel
theorem d_Go_layFacts_9 : decode b_Go_layFacts 9 = .ok (.isub, 1) := by decide +kernel
theorem d_Go_layFacts_10 : decode b_Go_layFacts 10 = .ok (.istore 5, 2) := by decide +kernel
theorem d_Go_layFacts_12 : decode b_Go_layFacts 12 = .ok (.iload 5, 2) := by decide +kernel
theorem d_Go_layFacts_14 : decode b_Go_layFacts 14 = .ok (.ifCond .lt 32, 3) := by decide +kernel
theorem d_Go_layFacts_17 : decode b_Go_layFacts 17 = .ok (.iload 5, 2) := by decide +kernel
theorem d_Go_layFacts_19 : decode b_Go_layFacts 19 = .ok (.aload_n 1, 1) := by decide +kernel
theorem d_Go_layFacts_20 : decode b_Go_layFacts 20 = .ok (.getfield 65, 3) := by decide +kernel
theorem d_Go_layFacts_23 : decode b_Go_layFacts 23 = .ok (.if_icmp .eq 17, 3) := by decide +kernel
theorem d_Go_layFacts_26 : decode b_Go_layFacts 26 = .ok (.iload_n 2, 1) := by decide +kernel
theorem d_Go_layFacts_27 : decode b_Go_layFacts 27 = .ok (.iload 5, 2) := by decide +kernel
theorem d_Go_layFacts_29 : decode b_Go_layFacts 29 = .ok (.ishr, 1) := by decide +kernel
theorem d_Go_layFacts_30 : decode b_Go_layFacts 30 = .ok (.iconst 1, 1) := by decide +kernel
theorem d_Go_layFacts_31 : decode b_Go_layFacts 31 = .ok (.iand, 1) := by decide +kernel
theorem d_Go_layFacts_32 : decode b_Go_layFacts 32 = .ok (.iconst 1, 1) := by decide +kernel
theorem d_Go_layFacts_33 : decode b_Go_layFacts 33 = .ok (.if_icmp .ne 7, 3) := by decide +kernel
theorem d_Go_layFacts_36 : decode b_Go_layFacts 36 = .ok (.iload 5, 2) := by decide +kernel
theorem d_Go_layFacts_38 : decode b_Go_layFacts 38 = .ok (.istore 4, 2) := by decide +kernel
theorem d_Go_layFacts_40 : decode b_Go_layFacts 40 = .ok (.iinc 5 (-1), 3) := by decide +kernel
theorem d_Go_layFacts_43 : decode b_Go_layFacts 43 = .ok (.goto (-31), 3) := by decide +kernel
theorem d_Go_layFacts_46 : decode b_Go_layFacts 46 = .ok (.aload_n 0, 1) := by decide +kernel
theorem d_Go_layFacts_47 : decode b_Go_layFacts 47 = .ok (.getfield 26, 3) := by decide +kernel
theorem d_Go_layFacts_50 : decode b_Go_layFacts 50 = .ok (.iconst 0, 1) := by decide +kernel
theorem d_Go_layFacts_51 : decode b_Go_layFacts 51 = .ok (.aload_n 1, 1) := by decide +kernel
theorem d_Go_layFacts_52 : decode b_Go_layFacts 52 = .ok (.getfield 65, 3) := by decide +kernel
theorem d_Go_layFacts_55 : decode b_Go_layFacts 55 = .ok (.iastore, 1) := by decide +kernel
theorem d_Go_layFacts_56 : decode b_Go_layFacts 56 = .ok (.aload_n 0, 1) := by decide +kernel
theorem d_Go_layFacts_57 : decode b_Go_layFacts 57 = .ok (.getfield 26, 3) := by decide +kernel
theorem d_Go_layFacts_60 : decode b_Go_layFacts 60 = .ok (.iconst 1, 1) := by decide +kernel
theorem d_Go_layFacts_61 : decode b_Go_layFacts 61 = .ok (.aload_n 1, 1) := by decide +kernel
theorem d_Go_layFacts_62 : decode b_Go_layFacts 62 = .ok (.getfield 123, 3) := by decide +kernel
theorem d_Go_layFacts_65 : decode b_Go_layFacts 65 = .ok (.iastore, 1) := by decide +kernel
theorem d_Go_layFacts_66 : decode b_Go_layFacts 66 = .ok (.aload_n 0, 1) := by decide +kernel
theorem d_Go_layFacts_67 : decode b_Go_layFacts 67 = .ok (.getfield 26, 3) := by decide +kernel
theorem d_Go_layFacts_70 : decode b_Go_layFacts 70 = .ok (.iconst 2, 1) := by decide +kernel
theorem d_Go_layFacts_71 : decode b_Go_layFacts 71 = .ok (.aload_n 1, 1) := by decide +kernel
theorem d_Go_layFacts_72 : decode b_Go_layFacts 72 = .ok (.getfield 86, 3) := by decide +kernel
theorem d_Go_layFacts_75 : decode b_Go_layFacts 75 = .ok (.iastore, 1) := by decide +kernel
theorem d_Go_layFacts_76 : decode b_Go_layFacts 76 = .ok (.aload_n 0, 1) := by decide +kernel
theorem d_Go_layFacts_77 : decode b_Go_layFacts 77 = .ok (.getfield 26, 3) := by decide +kernel
theorem d_Go_layFacts_80 : decode b_Go_layFacts 80 = .ok (.iconst 3, 1) := by decide +kernel
theorem d_Go_layFacts_81 : decode b_Go_layFacts 81 = .ok (.iload_n 2, 1) := by decide +kernel
theorem d_Go_layFacts_82 : decode b_Go_layFacts 82 = .ok (.invokestatic 89, 3) := by decide +kernel
theorem d_Go_layFacts_85 : decode b_Go_layFacts 85 = .ok (.iastore, 1) := by decide +kernel
theorem d_Go_layFacts_86 : decode b_Go_layFacts 86 = .ok (.aload_n 0, 1) := by decide +kernel
theorem d_Go_layFacts_87 : decode b_Go_layFacts 87 = .ok (.getfield 26, 3) := by decide +kernel
theorem d_Go_layFacts_90 : decode b_Go_layFacts 90 = .ok (.iconst 4, 1) := by decide +kernel
theorem d_Go_layFacts_91 : decode b_Go_layFacts 91 = .ok (.iload_n 3, 1) := by decide +kernel
theorem d_Go_layFacts_92 : decode b_Go_layFacts 92 = .ok (.iastore, 1) := by decide +kernel
theorem d_Go_layFacts_93 : decode b_Go_layFacts 93 = .ok (.aload_n 0, 1) := by decide +kernel
theorem d_Go_layFacts_94 : decode b_Go_layFacts 94 = .ok (.getfield 26, 3) := by decide +kernel
theorem d_Go_layFacts_97 : decode b_Go_layFacts 97 = .ok (.iconst 5, 1) := by decide +kernel
theorem d_Go_layFacts_98 : decode b_Go_layFacts 98 = .ok (.iload 4, 2) := by decide +kernel
theorem d_Go_layFacts_100 : decode b_Go_layFacts 100 = .ok (.iastore, 1) := by decide +kernel
theorem d_Go_layFacts_101 : decode b_Go_layFacts 101 = .ok (.return_, 1) := by decide +kernel
def l_Go_layFacts_12 (n : Nat) (E : PE)  (v1 : Nat) (v2 : Int32) (v3 : Int32) (F : Nat → Nat → Int32) (G : Nat → Nat → Int32) (P : Nat → Nat → Option Nat) (N : Nat → Nat) : Nat → Int32 → Int32 → Option (Int32)
  | 0, _, _ => none
  | k + 1, v4, v5 => (if v5 < 0 then some v4 else if eV E v1 = true then (if v5 = (eD E v1 1) then some v4 else (if ((v2 >>> (v5 &&& 31)) &&& 1) = 1 then some v5 else some v4) : Option (Int32)).bind fun x3 => l_Go_layFacts_12 n E v1 v2 v3 F G P N k x3 (v5 + (-1)) else none)
set_option maxHeartbeats 4000000 in
theorem wl_Go_layFacts_12 {Q : State → Prop}  {p : Program} {l : Launch} {e : Env} {s : State} {m : MethodId} {args : Array Value} {below : List Frame} {meth : Method} {c : Code} {dC : Nat → ClassId} {dI : Nat → Nat → Nat} {ad : Nat → Nat} {cI cZ cW cJ : ClassId} {A : Nat → Prop} {adK adV : Nat → Nat} {E : PE} (C : cC p s m args c b_Go_layFacts 6 "LanternBridge$Goings" dC dI cI cZ cW cJ A adK adV E) (hA : ∀ q, s.heap.size ≤ q → A q) (hr : meth.sig.returnType = none) (hlk : meth.locks = false) (n : Nat)  (v1 : Nat) (v2 : Int32) (v3 : Int32) (F : Nat → Nat → Int32) (G : Nat → Nat → Int32) (P : Nat → Nat → Option Nat) (N : Nat → Nat) : ∀ (k : Nat) (v4 : Int32) (v5 : Int32) (r0 : Int32), l_Go_layFacts_12 n E v1 v2 v3 F G P N k v4 v5 = some r0 → (∀ (ls : Array Slot), lv_has ls 6 [(0, .ref (ad 3)), (1, .ref v1), (2, .int v2), (3, .int v3), (4, .int r0)] → ∀ (H : Heap) (locs : List Loc), cH A s.heap dC dI ad cI cZ cW cJ F G P N H locs → W p l e (rL 5) s m args below meth c H locs 0 0 Q (F0 m 46 ls [])) → ∀ (ls : Array Slot), lv_has ls 6 [(0, .ref (ad 3)), (1, .ref v1), (2, .int v2), (3, .int v3), (4, .int v4), (5, .int v5)] → ∀ (H : Heap) (locs : List Loc), cH A s.heap dC dI ad cI cZ cW cJ F G P N H locs → W p l e (rL 5) s m args below meth c H locs 0 0 Q (F0 m 12 ls []) := by
  obtain ⟨hx, hb, hml, hown, hT, hK, hTS, hTR, hpS, hi⟩ := id C
  intro k
  induction k with
  | zero => intro v4 v5 r0 hf; exact absurd hf (by unfold l_Go_layFacts_12; exact fun h9 => by cases h9)
  | succ k ih =>
    intro v4 v5 r0 hf K ls hl H locs h
    unfold l_Go_layFacts_12 at hf
    refine lv_iload hx hb d_Go_layFacts_12 (lv_at hl 5 rfl) ?_
    refine lv_if_lt (tgt := 46) hx hb d_Go_layFacts_14 (by decide) (fun hc => ?_) (fun hc => ?_)
    · have hf := op_t hc hf
      obtain rfl := op_i1 hf
      exact K ls (lv_sub hl [0, 1, 2, 3, 4] rfl) H locs h
    · have hf := op_f hc hf
      refine lv_iload hx hb d_Go_layFacts_17 (lv_at hl 5 rfl) ?_
      refine lv_aload_n hx hb d_Go_layFacts_19 rfl (lv_at hl 1 rfl) ?_
      obtain ⟨h1, hf⟩ := op_if hf
      refine wg_1 hx hb hT hown hK ((cpS hpS h).1 v1 h1).1 ((cpS hpS h).1 v1 h1).2.1 fl_Go_65 (fun _ h9 => h9) d_Go_layFacts_20 ?_
      obtain ⟨x3, he, hf⟩ := op_bind hf
      have K2 : ∀ (ls : Array Slot), lv_has ls 6 [(0, .ref (ad 3)), (1, .ref v1), (2, .int v2), (3, .int v3), (4, .int x3), (5, .int v5)] → ∀ (H : Heap) (locs : List Loc), cH A s.heap dC dI ad cI cZ cW cJ F G P N H locs → W p l e (rL 5) s m args below meth c H locs 0 0 Q (F0 m 40 ls []) := by
        intro ls hl H locs h
        refine lv_iinc (v := (v5 + (-1))) (lv' := [(5, .int (v5 + (-1))), (0, .ref (ad 3)), (1, .ref v1), (2, .int v2), (3, .int v3), (4, .int x3)]) hx hb d_Go_layFacts_40 hl (k := 5) rfl rfl (by decide) rfl (fun ls hl => ?_)
        refine lv_goto (tgt := 12) hx hb d_Go_layFacts_43 (by decide) ?_
        exact ih x3 (v5 + (-1)) _ hf K ls (lv_sub hl [1, 2, 3, 4, 5, 0] rfl) H locs h
      have hf := he
      refine lv_icmp_eq (tgt := 40) hx hb d_Go_layFacts_23 (by decide) (fun hc => ?_) (fun hc => ?_)
      · have hf := op_t hc hf
        obtain rfl := op_i1 hf
        exact K2 ls (lv_sub hl [0, 1, 2, 3, 4, 5] rfl) H locs h
      · have hf := op_f hc hf
        refine lv_iload_n hx hb d_Go_layFacts_26 rfl (lv_at hl 2 rfl) ?_
        refine lv_iload hx hb d_Go_layFacts_27 (lv_at hl 5 rfl) ?_
        refine lv_ishr hx hb d_Go_layFacts_29 ?_
        refine lv_iconst (v := 1) hx hb d_Go_layFacts_30 (by decide) ?_
        refine lv_iand hx hb d_Go_layFacts_31 ?_
        refine lv_iconst (v := 1) hx hb d_Go_layFacts_32 (by decide) ?_
        refine lv_icmp_ne (tgt := 40) hx hb d_Go_layFacts_33 (by decide) (fun hc => ?_) (fun hc => ?_)
        · have hf := op_f hc hf
          obtain rfl := op_i1 hf
          exact K2 ls (lv_sub hl [0, 1, 2, 3, 4, 5] rfl) H locs h
        · have hf := op_t hc hf
          refine lv_iload hx hb d_Go_layFacts_36 (lv_at hl 5 rfl) ?_
          refine lv_istore (lv' := [(4, .int v5), (0, .ref (ad 3)), (1, .ref v1), (2, .int v2), (3, .int v3), (5, .int v5)]) hx hb d_Go_layFacts_38 hl (by decide) rfl (fun ls hl => ?_)
          obtain rfl := op_i1 hf
          exact K2 ls (lv_sub hl [1, 2, 3, 4, 0, 5] rfl) H locs h
def p_Go_layFacts (n : Nat) (E : PE) (v1 : Nat) (v2 : Int32) (v3 : Int32) (F : Nat → Nat → Int32) (G : Nat → Nat → Int32) (P : Nat → Nat → Option Nat) (N : Nat → Nat) : Option (CU) := (l_Go_layFacts_12 n E v1 v2 v3 F G P N n 9 ((F 3 1) - 1)).bind fun y4 => if eV E v1 = true then (p_Integer_bitCount n v2).bind fun x7 => some (F, (upR (upR (upR (upR (upR (upR G 17 0 (eD E v1 1)) 17 1 (eD E v1 0)) 17 2 (eD E v1 4)) 17 3 x7) 17 4 v3) 17 5 y4), P, N) else none
set_option maxHeartbeats 4000000 in
theorem c_Go_layFacts (l : Launch) (n : Nat) (E : PE) (v1 : Nat) (v2 : Int32) (v3 : Int32) (F : Nat → Nat → Int32) (G : Nat → Nat → Int32) (P : Nat → Nat → Option Nat) (N : Nat → Nat)  : CMv l y_Go_layFacts b_Go_layFacts 6 (rL 5) E (fun ad => [.ref (ad 3), .ref v1, .int v2, .int v3]) F G P N (p_Go_layFacts n E v1 v2 v3 F G P N) := by
  refine en_cv (by decide) (fun _ => Nat.le_of_ble_eq_true rfl) ?_
  intro z hf p e s m args below meth c dC dI ad cI cZ cW cJ A adK adV ls C hA h hr hlk hl
  have hl : lv_has ls 6 [(0, .ref (ad 3)), (1, .ref v1), (2, .int v2), (3, .int v3)] := hl
  unfold p_Go_layFacts at hf
  obtain ⟨hx, hb, hml, hown, hT, hK, hTS, hTR, hpS, hi⟩ := id C
  refine lv_bipush (v := 9) hx hb d_Go_layFacts_0 (by decide) ?_
  refine lv_istore (lv' := [(4, .int 9), (0, .ref (ad 3)), (1, .ref v1), (2, .int v2), (3, .int v3)]) hx hb d_Go_layFacts_2 hl (by decide) rfl (fun ls hl => ?_)
  refine lv_aload_n hx hb d_Go_layFacts_4 rfl (lv_at hl 1 rfl) ?_
  refine cg_3_1 hx hb hT hown hK h.1 fl_Go_45 d_Go_layFacts_5 ?_
  refine lv_iconst (v := 1) hx hb d_Go_layFacts_8 (by decide) ?_
  refine lv_isub hx hb d_Go_layFacts_9 ?_
  refine lv_istore (lv' := [(5, .int ((F 3 1) - 1)), (4, .int 9), (0, .ref (ad 3)), (1, .ref v1), (2, .int v2), (3, .int v3)]) hx hb d_Go_layFacts_10 hl (by decide) rfl (fun ls hl => ?_)
  obtain ⟨y4, he, hf⟩ := op_bind hf
  refine wl_Go_layFacts_12 C hA hr hlk n v1 v2 v3 F G P N n 9 ((F 3 1) - 1) _ he (fun ls hl H locs h => ?_) ls (lv_sub hl [2, 3, 4, 5, 1, 0] rfl) s.heap [] h
  refine lv_aload_n hx hb d_Go_layFacts_46 rfl (lv_at hl 0 rfl) ?_
  refine cg_3_5 hx hb hT hown hK h.1 fl_Go_26 d_Go_layFacts_47 ?_
  refine lv_iconst (v := 0) hx hb d_Go_layFacts_50 (by decide) ?_
  refine lv_aload_n hx hb d_Go_layFacts_51 rfl (lv_at hl 1 rfl) ?_
  obtain ⟨h5, hf⟩ := op_if hf
  refine wg_1 hx hb hT hown hK ((cpS hpS h).1 v1 h5).1 ((cpS hpS h).1 v1 h5).2.1 fl_Go_65 (fun _ h9 => h9) d_Go_layFacts_52 ?_
  refine cs_17 hx hb hK h (j := 0) (by decide) (show ix 0 6 by decide) d_Go_layFacts_55 (fun H locs h => ?_)
  refine lv_aload_n hx hb d_Go_layFacts_56 rfl (lv_at hl 0 rfl) ?_
  refine cg_3_5 hx hb hT hown hK h.1 fl_Go_26 d_Go_layFacts_57 ?_
  refine lv_iconst (v := 1) hx hb d_Go_layFacts_60 (by decide) ?_
  refine lv_aload_n hx hb d_Go_layFacts_61 rfl (lv_at hl 1 rfl) ?_
  refine wg_0 hx hb hT hown hK ((cpS hpS h).1 v1 h5).1 ((cpS hpS h).1 v1 h5).2.1 fl_Go_123 (fun _ h9 => h9) d_Go_layFacts_62 ?_
  refine cs_17 hx hb hK h (j := 1) (by decide) (show ix 1 6 by decide) d_Go_layFacts_65 (fun H locs h => ?_)
  refine lv_aload_n hx hb d_Go_layFacts_66 rfl (lv_at hl 0 rfl) ?_
  refine cg_3_5 hx hb hT hown hK h.1 fl_Go_26 d_Go_layFacts_67 ?_
  refine lv_iconst (v := 2) hx hb d_Go_layFacts_70 (by decide) ?_
  refine lv_aload_n hx hb d_Go_layFacts_71 rfl (lv_at hl 1 rfl) ?_
  refine wg_4 hx hb hT hown hK ((cpS hpS h).1 v1 h5).1 ((cpS hpS h).1 v1 h5).2.1 fl_Go_86 (fun _ h9 => h9) d_Go_layFacts_72 ?_
  refine cs_17 hx hb hK h (j := 2) (by decide) (show ix 2 6 by decide) d_Go_layFacts_75 (fun H locs h => ?_)
  refine lv_aload_n hx hb d_Go_layFacts_76 rfl (lv_at hl 0 rfl) ?_
  refine cg_3_5 hx hb hT hown hK h.1 fl_Go_26 d_Go_layFacts_77 ?_
  refine lv_iconst (v := 3) hx hb d_Go_layFacts_80 (by decide) ?_
  refine lv_iload_n hx hb d_Go_layFacts_81 rfl (lv_at hl 2 rfl) ?_
  obtain ⟨x7, hc6, hf⟩ := op_bind hf
  refine ks_i (rest := [.int 3, .ref (ad 17)]) hx hb hml hown hT (c_Integer_bitCount l n v2 _ hc6) (cbW 1 hT cd_Integer_bitCount rfl rfl ini_Integer ml_Go_89 hd_Integer_bitCount ⟨Nat.le_of_ble_eq_true rfl, Nat.le_of_ble_eq_true rfl⟩) sm_Integer_bitCount rfl hl.1 rfl (Nat.le_of_ble_eq_true rfl) d_Go_layFacts_82 ⟨Nat.zero_le _, Nat.zero_le _⟩ ?_
  refine cs_17 hx hb hK h (j := 3) (by decide) (show ix 3 6 by decide) d_Go_layFacts_85 (fun H locs h => ?_)
  refine lv_aload_n hx hb d_Go_layFacts_86 rfl (lv_at hl 0 rfl) ?_
  refine cg_3_5 hx hb hT hown hK h.1 fl_Go_26 d_Go_layFacts_87 ?_
  refine lv_iconst (v := 4) hx hb d_Go_layFacts_90 (by decide) ?_
  refine lv_iload_n hx hb d_Go_layFacts_91 rfl (lv_at hl 3 rfl) ?_
  refine cs_17 hx hb hK h (j := 4) (by decide) (show ix 4 6 by decide) d_Go_layFacts_92 (fun H locs h => ?_)
  refine lv_aload_n hx hb d_Go_layFacts_93 rfl (lv_at hl 0 rfl) ?_
  refine cg_3_5 hx hb hT hown hK h.1 fl_Go_26 d_Go_layFacts_94 ?_
  refine lv_iconst (v := 5) hx hb d_Go_layFacts_97 (by decide) ?_
  refine lv_iload hx hb d_Go_layFacts_98 (lv_at hl 4 rfl) ?_
  refine cs_17 hx hb hK h (j := 5) (by decide) (show ix 5 6 by decide) d_Go_layFacts_100 (fun H locs h => ?_)
  exact rt_cv C h hr hlk hf d_Go_layFacts_101
theorem hd_Go_takenBy : y_Go_takenBy.cls ≠ "java/lang/invoke/MethodHandle" ∧ y_Go_takenBy.cls ≠ "java/lang/invoke/VarHandle" ∧ (parseMethodDescriptor y_Go_takenBy.desc).map (fun d => d.parameters.length) = some 3 := by decide +kernel
theorem d_Go_takenBy_0 : decode b_Go_takenBy 0 = .ok (.iload_n 1, 1) := by decide +kernel
theorem d_Go_takenBy_1 : decode b_Go_takenBy 1 = .ok (.ifCond .lt 11, 3) := by decide +kernel
theorem d_Go_takenBy_4 : decode b_Go_takenBy 4 = .ok (.iload_n 1, 1) := by decide +kernel
theorem d_Go_takenBy_5 : decode b_Go_takenBy 5 = .ok (.aload_n 0, 1) := by decide +kernel
theorem d_Go_takenBy_6 : decode b_Go_takenBy 6 = .ok (.getfield 45, 3) := by decide +kernel
theorem d_Go_takenBy_9 : decode b_Go_takenBy 9 = .ok (.if_icmp .lt 7, 3) := by decide +kernel
theorem d_Go_takenBy_12 : decode b_Go_takenBy 12 = .ok (.aconst_null, 1) := by decide +kernel
theorem d_Go_takenBy_13 : decode b_Go_takenBy 13 = .ok (.goto 9, 3) := by decide +kernel
theorem d_Go_takenBy_16 : decode b_Go_takenBy 16 = .ok (.aload_n 0, 1) := by decide +kernel
theorem d_Go_takenBy_17 : decode b_Go_takenBy 17 = .ok (.getfield 11, 3) := by decide +kernel
theorem d_Go_takenBy_20 : decode b_Go_takenBy 20 = .ok (.iload_n 1, 1) := by decide +kernel
theorem d_Go_takenBy_21 : decode b_Go_takenBy 21 = .ok (.aaload, 1) := by decide +kernel
theorem d_Go_takenBy_22 : decode b_Go_takenBy 22 = .ok (.astore 4, 2) := by decide +kernel
theorem d_Go_takenBy_24 : decode b_Go_takenBy 24 = .ok (.aload 4, 2) := by decide +kernel
theorem d_Go_takenBy_26 : decode b_Go_takenBy 26 = .ok (.ifnonnull 5, 3) := by decide +kernel
theorem d_Go_takenBy_29 : decode b_Go_takenBy 29 = .ok (.iconst 0, 1) := by decide +kernel
theorem d_Go_takenBy_30 : decode b_Go_takenBy 30 = .ok (.ireturn, 1) := by decide +kernel
theorem d_Go_takenBy_31 : decode b_Go_takenBy 31 = .ok (.iload_n 2, 1) := by decide +kernel
theorem d_Go_takenBy_32 : decode b_Go_takenBy 32 = .ok (.iconst 1, 1) := by decide +kernel
theorem d_Go_takenBy_33 : decode b_Go_takenBy 33 = .ok (.iload_n 1, 1) := by decide +kernel
theorem d_Go_takenBy_34 : decode b_Go_takenBy 34 = .ok (.ishl, 1) := by decide +kernel
theorem d_Go_takenBy_35 : decode b_Go_takenBy 35 = .ok (.iconst (-1), 1) := by decide +kernel
theorem d_Go_takenBy_36 : decode b_Go_takenBy 36 = .ok (.ixor, 1) := by decide +kernel
theorem d_Go_takenBy_37 : decode b_Go_takenBy 37 = .ok (.iand, 1) := by decide +kernel
theorem d_Go_takenBy_38 : decode b_Go_takenBy 38 = .ok (.istore 5, 2) := by decide +kernel
theorem d_Go_takenBy_40 : decode b_Go_takenBy 40 = .ok (.aload_n 0, 1) := by decide +kernel
theorem d_Go_takenBy_41 : decode b_Go_takenBy 41 = .ok (.aload 4, 2) := by decide +kernel
theorem d_Go_takenBy_43 : decode b_Go_takenBy 43 = .ok (.iload_n 2, 1) := by decide +kernel
theorem d_Go_takenBy_44 : decode b_Go_takenBy 44 = .ok (.iload_n 3, 1) := by decide +kernel
theorem d_Go_takenBy_45 : decode b_Go_takenBy 45 = .ok (.invokevirtual 101, 3) := by decide +kernel
theorem d_Go_takenBy_48 : decode b_Go_takenBy 48 = .ok (.aload 4, 2) := by decide +kernel
theorem d_Go_takenBy_50 : decode b_Go_takenBy 50 = .ok (.aload 4, 2) := by decide +kernel
theorem d_Go_takenBy_52 : decode b_Go_takenBy 52 = .ok (.getfield 109, 3) := by decide +kernel
theorem d_Go_takenBy_55 : decode b_Go_takenBy 55 = .ok (.aload_n 0, 1) := by decide +kernel
theorem d_Go_takenBy_56 : decode b_Go_takenBy 56 = .ok (.getfield 22, 3) := by decide +kernel
theorem d_Go_takenBy_59 : decode b_Go_takenBy 59 = .ok (.aload_n 0, 1) := by decide +kernel
theorem d_Go_takenBy_60 : decode b_Go_takenBy 60 = .ok (.getfield 26, 3) := by decide +kernel
theorem d_Go_takenBy_63 : decode b_Go_takenBy 63 = .ok (.invokevirtual 112, 3) := by decide +kernel
theorem d_Go_takenBy_66 : decode b_Go_takenBy 66 = .ok (.iadd, 1) := by decide +kernel
theorem d_Go_takenBy_67 : decode b_Go_takenBy 67 = .ok (.iload 5, 2) := by decide +kernel
theorem d_Go_takenBy_69 : decode b_Go_takenBy 69 = .ok (.aload_n 0, 1) := by decide +kernel
theorem d_Go_takenBy_70 : decode b_Go_takenBy 70 = .ok (.iload 5, 2) := by decide +kernel
theorem d_Go_takenBy_72 : decode b_Go_takenBy 72 = .ok (.aload 4, 2) := by decide +kernel
theorem d_Go_takenBy_74 : decode b_Go_takenBy 74 = .ok (.getfield 86, 3) := by decide +kernel
theorem d_Go_takenBy_77 : decode b_Go_takenBy 77 = .ok (.invokevirtual 116, 3) := by decide +kernel
theorem d_Go_takenBy_80 : decode b_Go_takenBy 80 = .ok (.iload_n 3, 1) := by decide +kernel
theorem d_Go_takenBy_81 : decode b_Go_takenBy 81 = .ok (.invokevirtual 119, 3) := by decide +kernel
theorem d_Go_takenBy_84 : decode b_Go_takenBy 84 = .ok (.istore 6, 2) := by decide +kernel
theorem d_Go_takenBy_86 : decode b_Go_takenBy 86 = .ok (.iload 5, 2) := by decide +kernel
theorem d_Go_takenBy_88 : decode b_Go_takenBy 88 = .ok (.aload_n 0, 1) := by decide +kernel
theorem d_Go_takenBy_89 : decode b_Go_takenBy 89 = .ok (.getfield 52, 3) := by decide +kernel
theorem d_Go_takenBy_92 : decode b_Go_takenBy 92 = .ok (.iand, 1) := by decide +kernel
theorem d_Go_takenBy_93 : decode b_Go_takenBy 93 = .ok (.ifCond .eq 6, 3) := by decide +kernel
theorem d_Go_takenBy_96 : decode b_Go_takenBy 96 = .ok (.iinc 6 (-1), 3) := by decide +kernel
theorem d_Go_takenBy_99 : decode b_Go_takenBy 99 = .ok (.iconst 1, 1) := by decide +kernel
theorem d_Go_takenBy_100 : decode b_Go_takenBy 100 = .ok (.iload 6, 2) := by decide +kernel
theorem d_Go_takenBy_102 : decode b_Go_takenBy 102 = .ok (.invokestatic 72, 3) := by decide +kernel
theorem d_Go_takenBy_105 : decode b_Go_takenBy 105 = .ok (.ireturn, 1) := by decide +kernel
def p_Go_takenBy (n : Nat) (E : PE) (v1 : Int32) (v2 : Int32) (v3 : Int32) (F : Nat → Nat → Int32) (G : Nat → Nat → Int32) (P : Nat → Nat → Option Nat) (N : Nat → Nat) : Option (Int32 × CU) := (if v1 < 0 then some none else (if v1 < (F 3 1) then if ix v1 6 then (some (P 10 v1.toNatClampNeg)).bind fun q4 => (Option.elim q4 (some none) (fun a5 => some (some a5))) else none else some none) : Option (Option Nat)).bind fun x2 => (Option.elim x2 (some (0, F, G, P, N)) (fun a6 => (p_Go_layFacts n E a6 v2 v3 F G P N).bind fun (F9, G10, P11, N12) => if eV E a6 = true then if eN E (N12 3) = true then (p_Ni_slowness n (eT E (N12 3)) (eI E (N12 3)) (eR E (N12 3)) (G10 17)).bind fun x15 => (p_Go_goesHeavier n E F9 G10 P11 N12 ((v2 &&& ((1 <<< (v1 &&& 31)) ^^^ (-1)))) (eD E a6 4)).bind fun x18 => (pd_byKind n (eC E a6) (eD E a6) ((eD E a6 3) + x15) ((v2 &&& ((1 <<< (v1 &&& 31)) ^^^ (-1)))) x18 v3).bind fun x20 => (if ((v2 &&& ((1 <<< (v1 &&& 31)) ^^^ (-1))) &&& (F9 3 3)) = 0 then some x20 else some (x20 + (-1)) : Option (Int32)).bind fun x22 => some ((jmax 1 x22), F9, G10, P11, N12) else none else none))
set_option maxHeartbeats 4000000 in
theorem c_Go_takenBy (l : Launch) (n : Nat) (E : PE) (v1 : Int32) (v2 : Int32) (v3 : Int32) (F : Nat → Nat → Int32) (G : Nat → Nat → Int32) (P : Nat → Nat → Option Nat) (N : Nat → Nat)  : CMi l y_Go_takenBy b_Go_takenBy 7 .int (rL 12) E (fun ad => [.ref (ad 3), .int v1, .int v2, .int v3]) F G P N (p_Go_takenBy n E v1 v2 v3 F G P N) := by
  refine en_ci (by decide) (fun _ => Nat.le_of_ble_eq_true rfl) ?_
  intro z hf p e s m args below meth c dC dI ad cI cZ cW cJ A adK adV ls C hA h hr hlk hl
  have hl : lv_has ls 7 [(0, .ref (ad 3)), (1, .int v1), (2, .int v2), (3, .int v3)] := hl
  unfold p_Go_takenBy at hf
  obtain ⟨hx, hb, hml, hown, hT, hK, hTS, hTR, hpS, hi⟩ := id C
  refine lv_iload_n hx hb d_Go_takenBy_0 rfl (lv_at hl 1 rfl) ?_
  obtain ⟨x2, he, hf⟩ := op_bind hf
  have K1 : ∀ (ls : Array Slot), lv_has ls 7 [(0, .ref (ad 3)), (1, .int v1), (2, .int v2), (3, .int v3)] → ∀ (H : Heap) (locs : List Loc), cH A s.heap dC dI ad cI cZ cW cJ F G P N H locs → W p l e (rL 12) s m args below meth c H locs 0 0 (cQi dC dI ad cI cZ cW cJ A below args s z) (F0 m 22 ls [va_rf x2]) := by
    intro ls hl H locs h
    cases x2 with
    | none =>
      have hf := op_en hf
      refine lv_astoreN (lv' := [(4, .null), (0, .ref (ad 3)), (1, .int v1), (2, .int v2), (3, .int v3)]) hx hb d_Go_takenBy_22 hl (by decide) rfl (fun ls hl => ?_)
      refine lv_aloadN hx hb d_Go_takenBy_24 (lv_at hl 0 rfl) ?_
      refine lv_ifnonnullN hx hb d_Go_takenBy_26 ?_
      refine lv_iconst (v := 0) hx hb d_Go_takenBy_29 (by decide) ?_
      exact rt_ci C h hr hlk hf rfl d_Go_takenBy_30
    | some a6 =>
      have hf := op_es hf
      refine lv_astore (lv' := [(4, .ref a6), (0, .ref (ad 3)), (1, .int v1), (2, .int v2), (3, .int v3)]) hx hb d_Go_takenBy_22 hl (by decide) rfl (fun ls hl => ?_)
      refine lv_aload hx hb d_Go_takenBy_24 (lv_at hl 0 rfl) ?_
      refine lv_ifnonnull (tgt := 31) hx hb d_Go_takenBy_26 (by decide) ?_
      refine lv_iload_n hx hb d_Go_takenBy_31 rfl (lv_at hl 3 rfl) ?_
      refine lv_iconst (v := 1) hx hb d_Go_takenBy_32 (by decide) ?_
      refine lv_iload_n hx hb d_Go_takenBy_33 rfl (lv_at hl 2 rfl) ?_
      refine lv_ishl hx hb d_Go_takenBy_34 ?_
      refine lv_iconst (v := (-1)) hx hb d_Go_takenBy_35 (by decide) ?_
      refine lv_ixor hx hb d_Go_takenBy_36 ?_
      refine lv_iand hx hb d_Go_takenBy_37 ?_
      refine lv_istore (lv' := [(5, .int (v2 &&& ((1 <<< (v1 &&& 31)) ^^^ (-1)))), (4, .ref a6), (0, .ref (ad 3)), (1, .int v1), (2, .int v2), (3, .int v3)]) hx hb d_Go_takenBy_38 hl (by decide) rfl (fun ls hl => ?_)
      refine lv_aload_n hx hb d_Go_takenBy_40 rfl (lv_at hl 2 rfl) ?_
      refine lv_aload hx hb d_Go_takenBy_41 (lv_at hl 1 rfl) ?_
      refine lv_iload_n hx hb d_Go_takenBy_43 rfl (lv_at hl 4 rfl) ?_
      refine lv_iload_n hx hb d_Go_takenBy_44 rfl (lv_at hl 5 rfl) ?_
      obtain ⟨⟨F9, G10, P11, N12⟩, hc7, hf⟩ := op_bind hf
      try dsimp only at hf
      refine kx_v (C0 := R_Go) (b0 := ad 3) (rest := []) C h hA rfl (va_recv hK h.1 (ci := 1) (q0 := 3) rfl rfl) (c_Go_layFacts l n E a6 v2 v3 F G P N) hc7 (cbW 3 hT cd_Go_layFacts rfl rfl ini_Go ml_Go_101 hd_Go_layFacts ⟨Nat.le_of_ble_eq_true rfl, Nat.le_of_ble_eq_true rfl⟩) im_Go_layFacts sp_Go_layFacts rfl hl.1 rfl (Nat.le_of_ble_eq_true rfl) d_Go_takenBy_45 ⟨Nat.zero_le _, Nat.zero_le _⟩ (fun H locs h => ?_)
      refine lv_aload hx hb d_Go_takenBy_48 (lv_at hl 1 rfl) ?_
      refine lv_aload hx hb d_Go_takenBy_50 (lv_at hl 1 rfl) ?_
      obtain ⟨h13, hf⟩ := op_if hf
      refine wg_3 hx hb hT hown hK ((cpS hpS h).1 a6 h13).1 ((cpS hpS h).1 a6 h13).2.1 fl_Go_109 (fun _ h9 => h9) d_Go_takenBy_52 ?_
      refine lv_aload_n hx hb d_Go_takenBy_55 rfl (lv_at hl 2 rfl) ?_
      refine cg_3_4 hx hb hT hown hK h.1 fl_Go_22 d_Go_takenBy_56 ?_
      refine lv_aload_n hx hb d_Go_takenBy_59 rfl (lv_at hl 2 rfl) ?_
      refine cg_3_5 hx hb hT hown hK h.1 fl_Go_26 d_Go_takenBy_60 ?_
      obtain ⟨h16, hf⟩ := op_if hf
      obtain ⟨x15, hc14, hf⟩ := op_bind hf
      refine kr_i (C := R_Ni) (b0 := (N12 3)) (As := [.ref (ad 17)]) (rest := [.int (eD E a6 3), .ref a6]) hx hb hml hown hT qB_bl (qB_to (hK.sub [0] rfl) (qX_of ((cpS hpS h).2 (N12 3) h16).1 (h.1 17 _ rfl))) (va_recv hK ((cpS hpS h).2 (N12 3) h16).1 (ci := 4) (q0 := 0) rfl rfl) (c_Ni_slowness l n (eT E (N12 3)) (eI E (N12 3)) (eR E (N12 3)) (G10 17) dC dI (nAd E (N12 3)) cI (ad 17) _ hc14) (cbW 1 hT cd_Ni_slowness rfl rfl ini_Ni ml_Go_112 hd_Ni_slowness ⟨Nat.le_of_ble_eq_true rfl, Nat.le_of_ble_eq_true rfl⟩) im_Ni_slowness se_Ni_Ni_slowness__Ni_slowness rfl hl.1 rfl (Nat.le_of_ble_eq_true rfl) d_Go_takenBy_63 ⟨Nat.zero_le _, Nat.zero_le _⟩ ?_
      refine lv_iadd hx hb d_Go_takenBy_66 ?_
      refine lv_iload hx hb d_Go_takenBy_67 (lv_at hl 0 rfl) ?_
      refine lv_aload_n hx hb d_Go_takenBy_69 rfl (lv_at hl 2 rfl) ?_
      refine lv_iload hx hb d_Go_takenBy_70 (lv_at hl 0 rfl) ?_
      refine lv_aload hx hb d_Go_takenBy_72 (lv_at hl 1 rfl) ?_
      refine wg_4 hx hb hT hown hK ((cpS hpS h).1 a6 h13).1 ((cpS hpS h).1 a6 h13).2.1 fl_Go_86 (fun _ h9 => h9) d_Go_takenBy_74 ?_
      obtain ⟨x18, hc17, hf⟩ := op_bind hf
      refine kr_i (C := R_Go) (b0 := ad 3) (rest := [.int (v2 &&& ((1 <<< (v1 &&& 31)) ^^^ (-1))), .int ((eD E a6 3) + x15), .ref a6]) hx hb hml hown hT cB_bl (cB_to hK h.1 (cpS hpS h) hi) (va_recv hK h.1 (ci := 1) (q0 := 3) rfl rfl) (c_Go_goesHeavier l n E F9 G10 P11 N12 dC dI ad cI cZ cW cJ ((v2 &&& ((1 <<< (v1 &&& 31)) ^^^ (-1)))) (eD E a6 4) _ hc17) (cbW 2 hT cd_Go_goesHeavier rfl rfl ini_Go ml_Go_116 hd_Go_goesHeavier ⟨Nat.le_of_ble_eq_true rfl, Nat.le_of_ble_eq_true rfl⟩) im_Go_goesHeavier sp_Go_goesHeavier rfl hl.1 rfl (Nat.le_of_ble_eq_true rfl) d_Go_takenBy_77 ⟨Nat.zero_le _, Nat.zero_le _⟩ ?_
      refine lv_iload_n hx hb d_Go_takenBy_80 rfl (lv_at hl 5 rfl) ?_
      obtain ⟨x20, hc19, hf⟩ := op_bind hf
      refine kw_byKind (rest := []) n ((eD E a6 3) + x15) ((v2 &&& ((1 <<< (v1 &&& 31)) ^^^ (-1)))) x18 v3 hx hb hml hown hT hK hi ((cpS hpS h).1 a6 h13).1 ((cpS hpS h).1 a6 h13).2.1 hc19 ml_Go_119 ⟨Nat.le_of_ble_eq_true rfl, Nat.le_of_ble_eq_true rfl⟩ hl.1 (Nat.le_of_ble_eq_true rfl) d_Go_takenBy_81 ⟨Nat.zero_le _, Nat.zero_le _⟩ ?_
      refine lv_istore (lv' := [(6, .int x20), (5, .int (v2 &&& ((1 <<< (v1 &&& 31)) ^^^ (-1)))), (4, .ref a6), (0, .ref (ad 3)), (1, .int v1), (2, .int v2), (3, .int v3)]) hx hb d_Go_takenBy_84 hl (by decide) rfl (fun ls hl => ?_)
      refine lv_iload hx hb d_Go_takenBy_86 (lv_at hl 1 rfl) ?_
      refine lv_aload_n hx hb d_Go_takenBy_88 rfl (lv_at hl 3 rfl) ?_
      refine cg_3_3 hx hb hT hown hK h.1 fl_Go_52 d_Go_takenBy_89 ?_
      refine lv_iand hx hb d_Go_takenBy_92 ?_
      obtain ⟨x22, he, hf⟩ := op_bind hf
      have K21 : ∀ (ls : Array Slot), lv_has ls 7 [(6, .int x22)] → ∀ (H : Heap) (locs : List Loc), cH A s.heap dC dI ad cI cZ cW cJ F9 G10 P11 N12 H locs → W p l e (rL 12) s m args below meth c H locs 0 0 (cQi dC dI ad cI cZ cW cJ A below args s z) (F0 m 99 ls []) := by
        intro ls hl H locs h
        refine lv_iconst (v := 1) hx hb d_Go_takenBy_99 (by decide) ?_
        refine lv_iload hx hb d_Go_takenBy_100 (lv_at hl 0 rfl) ?_
        refine k_jmax hx hb hml hown hl.1 (hT _ ml_Go_72) hT d_Go_takenBy_102 (Nat.le_of_ble_eq_true rfl) (Nat.le_of_ble_eq_true rfl) (Nat.le_of_ble_eq_true rfl) ⟨Nat.zero_le _, Nat.zero_le _⟩ ?_
        exact rt_ci C h hr hlk hf rfl d_Go_takenBy_105
      have hf := he
      refine lv_if_eq (tgt := 99) hx hb d_Go_takenBy_93 (by decide) (fun hc => ?_) (fun hc => ?_)
      · have hf := op_t hc hf
        obtain rfl := op_i1 hf
        exact K21 ls (lv_sub hl [0] rfl) H locs h
      · have hf := op_f hc hf
        refine lv_iinc (v := (x20 + (-1))) (lv' := [(6, .int (x20 + (-1))), (5, .int (v2 &&& ((1 <<< (v1 &&& 31)) ^^^ (-1)))), (4, .ref a6), (0, .ref (ad 3)), (1, .int v1), (2, .int v2), (3, .int v3)]) hx hb d_Go_takenBy_96 hl (k := 0) rfl rfl (by decide) rfl (fun ls hl => ?_)
        obtain rfl := op_i1 hf
        exact K21 ls (lv_sub hl [0] rfl) H locs h
  have hf := he
  refine lv_if_lt (tgt := 12) hx hb d_Go_takenBy_1 (by decide) (fun hc => ?_) (fun hc => ?_)
  · have hf := op_t hc hf
    refine lv_null hx hb d_Go_takenBy_12 ?_
    refine lv_goto (tgt := 22) hx hb d_Go_takenBy_13 (by decide) ?_
    obtain rfl := op_i1 hf
    exact K1 ls (lv_sub hl [0, 1, 2, 3] rfl) s.heap [] h
  · have hf := op_f hc hf
    refine lv_iload_n hx hb d_Go_takenBy_4 rfl (lv_at hl 1 rfl) ?_
    refine lv_aload_n hx hb d_Go_takenBy_5 rfl (lv_at hl 0 rfl) ?_
    refine cg_3_1 hx hb hT hown hK h.1 fl_Go_45 d_Go_takenBy_6 ?_
    refine lv_icmp_lt (tgt := 16) hx hb d_Go_takenBy_9 (by decide) (fun hc => ?_) (fun hc => ?_)
    · have hf := op_t hc hf
      refine lv_aload_n hx hb d_Go_takenBy_16 rfl (lv_at hl 0 rfl) ?_
      refine cg_3_0 hx hb hT hown hK h.1 fl_Go_11 d_Go_takenBy_17 ?_
      refine lv_iload_n hx hb d_Go_takenBy_20 rfl (lv_at hl 1 rfl) ?_
      obtain ⟨h3, hf⟩ := op_if hf
      obtain ⟨q4, hq4, hf⟩ := op_bind hf
      refine cq_10 hx hb hK h.1 rfl h3 d_Go_takenBy_21 ?_
      rw [op_i1 hq4]
      cases q4 with
      | none =>
        have hf := op_en hf
        obtain rfl := op_i1 hf
        exact K1 ls (lv_sub hl [0, 1, 2, 3] rfl) s.heap [] h
      | some a5 =>
        have hf := op_es hf
        obtain rfl := op_i1 hf
        exact K1 ls (lv_sub hl [0, 1, 2, 3] rfl) s.heap [] h
    · have hf := op_f hc hf
      refine lv_null hx hb d_Go_takenBy_12 ?_
      refine lv_goto (tgt := 22) hx hb d_Go_takenBy_13 (by decide) ?_
      obtain rfl := op_i1 hf
      exact K1 ls (lv_sub hl [0, 1, 2, 3] rfl) s.heap [] h
theorem hd_Go_takenByOthers : y_Go_takenByOthers.cls ≠ "java/lang/invoke/MethodHandle" ∧ y_Go_takenByOthers.cls ≠ "java/lang/invoke/VarHandle" ∧ (parseMethodDescriptor y_Go_takenByOthers.desc).map (fun d => d.parameters.length) = some 3 := by decide +kernel
theorem d_Go_takenByOthers_0 : decode b_Go_takenByOthers 0 = .ok (.iconst 0, 1) := by decide +kernel
theorem d_Go_takenByOthers_1 : decode b_Go_takenByOthers 1 = .ok (.istore 4, 2) := by decide +kernel
theorem d_Go_takenByOthers_3 : decode b_Go_takenByOthers 3 = .ok (.iconst 0, 1) := by decide +kernel
theorem d_Go_takenByOthers_4 : decode b_Go_takenByOthers 4 = .ok (.istore 5, 2) := by decide +kernel
theorem d_Go_takenByOthers_6 : decode b_Go_takenByOthers 6 = .ok (.iload 5, 2) := by decide +kernel
theorem d_Go_takenByOthers_8 : decode b_Go_takenByOthers 8 = .ok (.aload_n 0, 1) := by decide +kernel
theorem d_Go_takenByOthers_9 : decode b_Go_takenByOthers 9 = .ok (.getfield 45, 3) := by decide +kernel
theorem d_Go_takenByOthers_12 : decode b_Go_takenByOthers 12 = .ok (.if_icmp .ge 40, 3) := by decide +kernel
theorem d_Go_takenByOthers_15 : decode b_Go_takenByOthers 15 = .ok (.iload 5, 2) := by decide +kernel
theorem d_Go_takenByOthers_17 : decode b_Go_takenByOthers 17 = .ok (.iload_n 1, 1) := by decide +kernel
theorem d_Go_takenByOthers_18 : decode b_Go_takenByOthers 18 = .ok (.if_icmp .eq 28, 3) := by decide +kernel
theorem d_Go_takenByOthers_21 : decode b_Go_takenByOthers 21 = .ok (.iload_n 2, 1) := by decide +kernel
theorem d_Go_takenByOthers_22 : decode b_Go_takenByOthers 22 = .ok (.iload 5, 2) := by decide +kernel
theorem d_Go_takenByOthers_24 : decode b_Go_takenByOthers 24 = .ok (.ishr, 1) := by decide +kernel
theorem d_Go_takenByOthers_25 : decode b_Go_takenByOthers 25 = .ok (.iconst 1, 1) := by decide +kernel
theorem d_Go_takenByOthers_26 : decode b_Go_takenByOthers 26 = .ok (.iand, 1) := by decide +kernel
theorem d_Go_takenByOthers_27 : decode b_Go_takenByOthers 27 = .ok (.iconst 1, 1) := by decide +kernel
theorem d_Go_takenByOthers_28 : decode b_Go_takenByOthers 28 = .ok (.if_icmp .ne 18, 3) := by decide +kernel
theorem d_Go_takenByOthers_31 : decode b_Go_takenByOthers 31 = .ok (.iload 4, 2) := by decide +kernel
theorem d_Go_takenByOthers_33 : decode b_Go_takenByOthers 33 = .ok (.aload_n 0, 1) := by decide +kernel
theorem d_Go_takenByOthers_34 : decode b_Go_takenByOthers 34 = .ok (.iload 5, 2) := by decide +kernel
theorem d_Go_takenByOthers_36 : decode b_Go_takenByOthers 36 = .ok (.iload_n 2, 1) := by decide +kernel
theorem d_Go_takenByOthers_37 : decode b_Go_takenByOthers 37 = .ok (.iload_n 3, 1) := by decide +kernel
theorem d_Go_takenByOthers_38 : decode b_Go_takenByOthers 38 = .ok (.invokevirtual 68, 3) := by decide +kernel
theorem d_Go_takenByOthers_41 : decode b_Go_takenByOthers 41 = .ok (.invokestatic 72, 3) := by decide +kernel
theorem d_Go_takenByOthers_44 : decode b_Go_takenByOthers 44 = .ok (.istore 4, 2) := by decide +kernel
theorem d_Go_takenByOthers_46 : decode b_Go_takenByOthers 46 = .ok (.iinc 5 1, 3) := by decide +kernel
theorem d_Go_takenByOthers_49 : decode b_Go_takenByOthers 49 = .ok (.goto (-43), 3) := by decide +kernel
theorem d_Go_takenByOthers_52 : decode b_Go_takenByOthers 52 = .ok (.iload 4, 2) := by decide +kernel
theorem d_Go_takenByOthers_54 : decode b_Go_takenByOthers 54 = .ok (.ireturn, 1) := by decide +kernel
def l_Go_takenByOthers_6 (n : Nat) (E : PE)  (v1 : Int32) (v2 : Int32) (v3 : Int32)  : Nat → Int32 → Int32 → (Nat → Nat → Int32) → (Nat → Nat → Int32) → (Nat → Nat → Option Nat) → (Nat → Nat) → Option (Int32 × (Nat → Nat → Int32) × (Nat → Nat → Int32) × (Nat → Nat → Option Nat) × (Nat → Nat))
  | 0, _, _, _, _, _, _ => none
  | k + 1, v4, v5, F, G, P, N => (if (F 3 1) ≤ v5 then some (v4, F, G, P, N) else (if v5 = v1 then some (v4, F, G, P, N) else (if ((v2 >>> (v5 &&& 31)) &&& 1) = 1 then (p_Go_takenBy n E v5 v2 v3 F G P N).bind fun (x8, F9, G10, P11, N12) => some ((jmax v4 x8), F9, G10, P11, N12) else some (v4, F, G, P, N)) : Option (Int32 × (Nat → Nat → Int32) × (Nat → Nat → Int32) × (Nat → Nat → Option Nat) × (Nat → Nat))).bind fun (x2, F3, G4, P5, N6) => l_Go_takenByOthers_6 n E v1 v2 v3 k x2 (v5 + 1) F3 G4 P5 N6)
set_option maxHeartbeats 4000000 in
theorem wl_Go_takenByOthers_6 {Q : State → Prop}  {p : Program} {l : Launch} {e : Env} {s : State} {m : MethodId} {args : Array Value} {below : List Frame} {meth : Method} {c : Code} {dC : Nat → ClassId} {dI : Nat → Nat → Nat} {ad : Nat → Nat} {cI cZ cW cJ : ClassId} {A : Nat → Prop} {adK adV : Nat → Nat} {E : PE} (C : cC p s m args c b_Go_takenByOthers 6 "LanternBridge$Goings" dC dI cI cZ cW cJ A adK adV E) (hA : ∀ q, s.heap.size ≤ q → A q) (hr : meth.sig.returnType = some .int) (hlk : meth.locks = false) (n : Nat)  (v1 : Int32) (v2 : Int32) (v3 : Int32)  : ∀ (k : Nat) (v4 : Int32) (v5 : Int32) (F : Nat → Nat → Int32) (G : Nat → Nat → Int32) (P : Nat → Nat → Option Nat) (N : Nat → Nat) (r0 : Int32) (r1 : Nat → Nat → Int32) (r2 : Nat → Nat → Int32) (r3 : Nat → Nat → Option Nat) (r4 : Nat → Nat), l_Go_takenByOthers_6 n E v1 v2 v3 k v4 v5 F G P N = some (r0, r1, r2, r3, r4) → (∀ (ls : Array Slot), lv_has ls 6 [(4, .int r0)] → ∀ (H : Heap) (locs : List Loc), cH A s.heap dC dI ad cI cZ cW cJ r1 r2 r3 r4 H locs → W p l e (rL 13) s m args below meth c H locs 0 0 Q (F0 m 52 ls [])) → ∀ (ls : Array Slot), lv_has ls 6 [(0, .ref (ad 3)), (1, .int v1), (2, .int v2), (3, .int v3), (4, .int v4), (5, .int v5)] → ∀ (H : Heap) (locs : List Loc), cH A s.heap dC dI ad cI cZ cW cJ F G P N H locs → W p l e (rL 13) s m args below meth c H locs 0 0 Q (F0 m 6 ls []) := by
  obtain ⟨hx, hb, hml, hown, hT, hK, hTS, hTR, hpS, hi⟩ := id C
  intro k
  induction k with
  | zero => intro v4 v5 F G P N r0 r1 r2 r3 r4 hf; exact absurd hf (by unfold l_Go_takenByOthers_6; exact fun h9 => by cases h9)
  | succ k ih =>
    intro v4 v5 F G P N r0 r1 r2 r3 r4 hf K ls hl H locs h
    unfold l_Go_takenByOthers_6 at hf
    refine lv_iload hx hb d_Go_takenByOthers_6 (lv_at hl 5 rfl) ?_
    refine lv_aload_n hx hb d_Go_takenByOthers_8 rfl (lv_at hl 0 rfl) ?_
    refine cg_3_1 hx hb hT hown hK h.1 fl_Go_45 d_Go_takenByOthers_9 ?_
    refine lv_icmp_ge (tgt := 52) hx hb d_Go_takenByOthers_12 (by decide) (fun hc => ?_) (fun hc => ?_)
    · have hf := op_t hc hf
      obtain ⟨rfl, rfl, rfl, rfl, rfl⟩ := op_i5 hf
      exact K ls (lv_sub hl [4] rfl) H locs h
    · have hf := op_f hc hf
      refine lv_iload hx hb d_Go_takenByOthers_15 (lv_at hl 5 rfl) ?_
      refine lv_iload_n hx hb d_Go_takenByOthers_17 rfl (lv_at hl 1 rfl) ?_
      obtain ⟨⟨x2, F3, G4, P5, N6⟩, he, hf⟩ := op_bind hf
      try dsimp only at hf
      have K1 : ∀ (ls : Array Slot), lv_has ls 6 [(0, .ref (ad 3)), (1, .int v1), (2, .int v2), (3, .int v3), (4, .int x2), (5, .int v5)] → ∀ (H : Heap) (locs : List Loc), cH A s.heap dC dI ad cI cZ cW cJ F3 G4 P5 N6 H locs → W p l e (rL 13) s m args below meth c H locs 0 0 Q (F0 m 46 ls []) := by
        intro ls hl H locs h
        refine lv_iinc (v := (v5 + 1)) (lv' := [(5, .int (v5 + 1)), (0, .ref (ad 3)), (1, .int v1), (2, .int v2), (3, .int v3), (4, .int x2)]) hx hb d_Go_takenByOthers_46 hl (k := 5) rfl rfl (by decide) rfl (fun ls hl => ?_)
        refine lv_goto (tgt := 6) hx hb d_Go_takenByOthers_49 (by decide) ?_
        exact ih x2 (v5 + 1) F3 G4 P5 N6 _ _ _ _ _ hf K ls (lv_sub hl [1, 2, 3, 4, 5, 0] rfl) H locs h
      have hf := he
      refine lv_icmp_eq (tgt := 46) hx hb d_Go_takenByOthers_18 (by decide) (fun hc => ?_) (fun hc => ?_)
      · have hf := op_t hc hf
        obtain ⟨rfl, rfl, rfl, rfl, rfl⟩ := op_i5 hf
        exact K1 ls (lv_sub hl [0, 1, 2, 3, 4, 5] rfl) H locs h
      · have hf := op_f hc hf
        refine lv_iload_n hx hb d_Go_takenByOthers_21 rfl (lv_at hl 2 rfl) ?_
        refine lv_iload hx hb d_Go_takenByOthers_22 (lv_at hl 5 rfl) ?_
        refine lv_ishr hx hb d_Go_takenByOthers_24 ?_
        refine lv_iconst (v := 1) hx hb d_Go_takenByOthers_25 (by decide) ?_
        refine lv_iand hx hb d_Go_takenByOthers_26 ?_
        refine lv_iconst (v := 1) hx hb d_Go_takenByOthers_27 (by decide) ?_
        refine lv_icmp_ne (tgt := 46) hx hb d_Go_takenByOthers_28 (by decide) (fun hc => ?_) (fun hc => ?_)
        · have hf := op_f hc hf
          obtain ⟨rfl, rfl, rfl, rfl, rfl⟩ := op_i5 hf
          exact K1 ls (lv_sub hl [0, 1, 2, 3, 4, 5] rfl) H locs h
        · have hf := op_t hc hf
          refine lv_iload hx hb d_Go_takenByOthers_31 (lv_at hl 4 rfl) ?_
          refine lv_aload_n hx hb d_Go_takenByOthers_33 rfl (lv_at hl 0 rfl) ?_
          refine lv_iload hx hb d_Go_takenByOthers_34 (lv_at hl 5 rfl) ?_
          refine lv_iload_n hx hb d_Go_takenByOthers_36 rfl (lv_at hl 2 rfl) ?_
          refine lv_iload_n hx hb d_Go_takenByOthers_37 rfl (lv_at hl 3 rfl) ?_
          obtain ⟨⟨x8, F9, G10, P11, N12⟩, hc7, hf⟩ := op_bind hf
          try dsimp only at hf
          refine kx_i (C0 := R_Go) (b0 := ad 3) (rest := [.int v4]) C h hA rfl (va_recv hK h.1 (ci := 1) (q0 := 3) rfl rfl) (c_Go_takenBy l n E v5 v2 v3 F G P N) hc7 (cbW 3 hT cd_Go_takenBy rfl rfl ini_Go ml_Go_68 hd_Go_takenBy ⟨Nat.le_of_ble_eq_true rfl, Nat.le_of_ble_eq_true rfl⟩) im_Go_takenBy se_Go_Go_takenBy__Go_takenBy rfl hl.1 rfl (Nat.le_of_ble_eq_true rfl) d_Go_takenByOthers_38 ⟨Nat.zero_le _, Nat.zero_le _⟩ (fun H locs h => ?_)
          refine k_jmax hx hb hml hown hl.1 (hT _ ml_Go_72) hT d_Go_takenByOthers_41 (Nat.le_of_ble_eq_true rfl) (Nat.le_of_ble_eq_true rfl) (Nat.le_of_ble_eq_true rfl) ⟨Nat.zero_le _, Nat.zero_le _⟩ ?_
          refine lv_istore (lv' := [(4, .int (jmax v4 x8)), (0, .ref (ad 3)), (1, .int v1), (2, .int v2), (3, .int v3), (5, .int v5)]) hx hb d_Go_takenByOthers_44 hl (by decide) rfl (fun ls hl => ?_)
          obtain ⟨rfl, rfl, rfl, rfl, rfl⟩ := op_i5 hf
          exact K1 ls (lv_sub hl [1, 2, 3, 4, 0, 5] rfl) H locs h
def p_Go_takenByOthers (n : Nat) (E : PE) (v1 : Int32) (v2 : Int32) (v3 : Int32) (F : Nat → Nat → Int32) (G : Nat → Nat → Int32) (P : Nat → Nat → Option Nat) (N : Nat → Nat) : Option (Int32 × CU) := (l_Go_takenByOthers_6 n E v1 v2 v3 n 0 0 F G P N).bind fun (y13, F14, G15, P16, N17) => some (y13, F14, G15, P16, N17)
set_option maxHeartbeats 4000000 in
theorem c_Go_takenByOthers (l : Launch) (n : Nat) (E : PE) (v1 : Int32) (v2 : Int32) (v3 : Int32) (F : Nat → Nat → Int32) (G : Nat → Nat → Int32) (P : Nat → Nat → Option Nat) (N : Nat → Nat)  : CMi l y_Go_takenByOthers b_Go_takenByOthers 6 .int (rL 13) E (fun ad => [.ref (ad 3), .int v1, .int v2, .int v3]) F G P N (p_Go_takenByOthers n E v1 v2 v3 F G P N) := by
  refine en_ci (by decide) (fun _ => Nat.le_of_ble_eq_true rfl) ?_
  intro z hf p e s m args below meth c dC dI ad cI cZ cW cJ A adK adV ls C hA h hr hlk hl
  have hl : lv_has ls 6 [(0, .ref (ad 3)), (1, .int v1), (2, .int v2), (3, .int v3)] := hl
  unfold p_Go_takenByOthers at hf
  obtain ⟨hx, hb, hml, hown, hT, hK, hTS, hTR, hpS, hi⟩ := id C
  refine lv_iconst (v := 0) hx hb d_Go_takenByOthers_0 (by decide) ?_
  refine lv_istore (lv' := [(4, .int 0), (0, .ref (ad 3)), (1, .int v1), (2, .int v2), (3, .int v3)]) hx hb d_Go_takenByOthers_1 hl (by decide) rfl (fun ls hl => ?_)
  refine lv_iconst (v := 0) hx hb d_Go_takenByOthers_3 (by decide) ?_
  refine lv_istore (lv' := [(5, .int 0), (4, .int 0), (0, .ref (ad 3)), (1, .int v1), (2, .int v2), (3, .int v3)]) hx hb d_Go_takenByOthers_4 hl (by decide) rfl (fun ls hl => ?_)
  obtain ⟨⟨y13, F14, G15, P16, N17⟩, he, hf⟩ := op_bind hf
  try dsimp only at hf
  refine wl_Go_takenByOthers_6 C hA hr hlk n v1 v2 v3 n 0 0 F G P N _ _ _ _ _ he (fun ls hl H locs h => ?_) ls (lv_sub hl [2, 3, 4, 5, 1, 0] rfl) s.heap [] h
  refine lv_iload hx hb d_Go_takenByOthers_52 (lv_at hl 0 rfl) ?_
  exact rt_ci C h hr hlk hf rfl d_Go_takenByOthers_54
theorem hd_Go_isBarred : y_Go_isBarred.cls ≠ "java/lang/invoke/MethodHandle" ∧ y_Go_isBarred.cls ≠ "java/lang/invoke/VarHandle" ∧ (parseMethodDescriptor y_Go_isBarred.desc).map (fun d => d.parameters.length) = some 2 := by decide +kernel
theorem d_Go_isBarred_0 : decode b_Go_isBarred 0 = .ok (.iconst 0, 1) := by decide +kernel
theorem d_Go_isBarred_1 : decode b_Go_isBarred 1 = .ok (.istore_n 3, 1) := by decide +kernel
theorem d_Go_isBarred_2 : decode b_Go_isBarred 2 = .ok (.iload_n 3, 1) := by decide +kernel
theorem d_Go_isBarred_3 : decode b_Go_isBarred 3 = .ok (.aload_n 0, 1) := by decide +kernel
theorem d_Go_isBarred_4 : decode b_Go_isBarred 4 = .ok (.getfield 45, 3) := by decide +kernel
theorem d_Go_isBarred_7 : decode b_Go_isBarred 7 = .ok (.if_icmp .ge 57, 3) := by decide +kernel
theorem d_Go_isBarred_10 : decode b_Go_isBarred 10 = .ok (.aload_n 0, 1) := by decide +kernel
theorem d_Go_isBarred_11 : decode b_Go_isBarred 11 = .ok (.getfield 11, 3) := by decide +kernel
theorem d_Go_isBarred_14 : decode b_Go_isBarred 14 = .ok (.iload_n 3, 1) := by decide +kernel
theorem d_Go_isBarred_15 : decode b_Go_isBarred 15 = .ok (.aaload, 1) := by decide +kernel
theorem d_Go_isBarred_16 : decode b_Go_isBarred 16 = .ok (.astore 4, 2) := by decide +kernel
theorem d_Go_isBarred_18 : decode b_Go_isBarred 18 = .ok (.aload 4, 2) := by decide +kernel
theorem d_Go_isBarred_20 : decode b_Go_isBarred 20 = .ok (.ifnull 38, 3) := by decide +kernel
theorem d_Go_isBarred_23 : decode b_Go_isBarred 23 = .ok (.iload_n 1, 1) := by decide +kernel
theorem d_Go_isBarred_24 : decode b_Go_isBarred 24 = .ok (.iload_n 3, 1) := by decide +kernel
theorem d_Go_isBarred_25 : decode b_Go_isBarred 25 = .ok (.ishr, 1) := by decide +kernel
theorem d_Go_isBarred_26 : decode b_Go_isBarred 26 = .ok (.iconst 1, 1) := by decide +kernel
theorem d_Go_isBarred_27 : decode b_Go_isBarred 27 = .ok (.iand, 1) := by decide +kernel
theorem d_Go_isBarred_28 : decode b_Go_isBarred 28 = .ok (.ifCond .ne 6, 3) := by decide +kernel
theorem d_Go_isBarred_31 : decode b_Go_isBarred 31 = .ok (.goto 27, 3) := by decide +kernel
theorem d_Go_isBarred_34 : decode b_Go_isBarred 34 = .ok (.aload_n 0, 1) := by decide +kernel
theorem d_Go_isBarred_35 : decode b_Go_isBarred 35 = .ok (.aload 4, 2) := by decide +kernel
theorem d_Go_isBarred_37 : decode b_Go_isBarred 37 = .ok (.iload_n 1, 1) := by decide +kernel
theorem d_Go_isBarred_38 : decode b_Go_isBarred 38 = .ok (.iload_n 2, 1) := by decide +kernel
theorem d_Go_isBarred_39 : decode b_Go_isBarred 39 = .ok (.invokevirtual 101, 3) := by decide +kernel
theorem d_Go_isBarred_42 : decode b_Go_isBarred 42 = .ok (.aload_n 0, 1) := by decide +kernel
theorem d_Go_isBarred_43 : decode b_Go_isBarred 43 = .ok (.getfield 22, 3) := by decide +kernel
theorem d_Go_isBarred_46 : decode b_Go_isBarred 46 = .ok (.aload_n 0, 1) := by decide +kernel
theorem d_Go_isBarred_47 : decode b_Go_isBarred 47 = .ok (.getfield 26, 3) := by decide +kernel
theorem d_Go_isBarred_50 : decode b_Go_isBarred 50 = .ok (.invokevirtual 105, 3) := by decide +kernel
theorem d_Go_isBarred_53 : decode b_Go_isBarred 53 = .ok (.ifCond .eq 5, 3) := by decide +kernel
theorem d_Go_isBarred_56 : decode b_Go_isBarred 56 = .ok (.iconst 1, 1) := by decide +kernel
theorem d_Go_isBarred_57 : decode b_Go_isBarred 57 = .ok (.ireturn, 1) := by decide +kernel
theorem d_Go_isBarred_58 : decode b_Go_isBarred 58 = .ok (.iinc 3 1, 3) := by decide +kernel
theorem d_Go_isBarred_61 : decode b_Go_isBarred 61 = .ok (.goto (-59), 3) := by decide +kernel
theorem d_Go_isBarred_64 : decode b_Go_isBarred 64 = .ok (.iconst 0, 1) := by decide +kernel
theorem d_Go_isBarred_65 : decode b_Go_isBarred 65 = .ok (.ireturn, 1) := by decide +kernel
def l_Go_isBarred_2 (n : Nat) (E : PE)  (v1 : Int32) (v2 : Int32)  : Nat → Int32 → (Nat → Nat → Int32) → (Nat → Nat → Int32) → (Nat → Nat → Option Nat) → (Nat → Nat) → Option (Int32 × CU)
  | 0, _, _, _, _, _ => none
  | k + 1, v3, F, G, P, N => (if (F 3 1) ≤ v3 then some (0, F, G, P, N) else if ix v3 6 then (some (P 10 v3.toNatClampNeg)).bind fun q2 => (Option.elim q2 (l_Go_isBarred_2 n E v1 v2 k (v3 + 1) F G P N) (fun a3 => (if ((v1 >>> (v3 &&& 31)) &&& 1) = 0 then l_Go_isBarred_2 n E v1 v2 k (v3 + 1) F G P N else (p_Go_layFacts n E a3 v1 v2 F G P N).bind fun (F6, G7, P8, N9) => if eN E (N9 3) = true then (p_Ni_bars n (eT E (N9 3)) (eI E (N9 3)) (eR E (N9 3)) (G7 17)).bind fun x11 => (if x11 = 0 then l_Go_isBarred_2 n E v1 v2 k (v3 + 1) F6 G7 P8 N9 else some (1, F6, G7, P8, N9)) else none))) else none)
set_option maxHeartbeats 4000000 in
theorem wl_Go_isBarred_2  {p : Program} {l : Launch} {e : Env} {s : State} {m : MethodId} {args : Array Value} {below : List Frame} {meth : Method} {c : Code} {dC : Nat → ClassId} {dI : Nat → Nat → Nat} {ad : Nat → Nat} {cI cZ cW cJ : ClassId} {A : Nat → Prop} {adK adV : Nat → Nat} {E : PE} (C : cC p s m args c b_Go_isBarred 5 "LanternBridge$Goings" dC dI cI cZ cW cJ A adK adV E) (hA : ∀ q, s.heap.size ≤ q → A q) (hr : meth.sig.returnType = some .boolean) (hlk : meth.locks = false) (n : Nat)  (v1 : Int32) (v2 : Int32)  : ∀ (k : Nat) (v3 : Int32) (F : Nat → Nat → Int32) (G : Nat → Nat → Int32) (P : Nat → Nat → Option Nat) (N : Nat → Nat) (z : Int32 × CU), l_Go_isBarred_2 n E v1 v2 k v3 F G P N = some z → ∀ (ls : Array Slot), lv_has ls 5 [(0, .ref (ad 3)), (1, .int v1), (2, .int v2), (3, .int v3)] → ∀ (H : Heap) (locs : List Loc), cH A s.heap dC dI ad cI cZ cW cJ F G P N H locs → W p l e (rL 7) s m args below meth c H locs 0 0 (cQi dC dI ad cI cZ cW cJ A below args s z) (F0 m 2 ls []) := by
  obtain ⟨hx, hb, hml, hown, hT, hK, hTS, hTR, hpS, hi⟩ := id C
  intro k
  induction k with
  | zero => intro v3 F G P N z hf; exact absurd hf (by unfold l_Go_isBarred_2; exact fun h9 => by cases h9)
  | succ k ih =>
    intro v3 F G P N z hf ls hl H locs h
    unfold l_Go_isBarred_2 at hf
    refine lv_iload_n hx hb d_Go_isBarred_2 rfl (lv_at hl 3 rfl) ?_
    refine lv_aload_n hx hb d_Go_isBarred_3 rfl (lv_at hl 0 rfl) ?_
    refine cg_3_1 hx hb hT hown hK h.1 fl_Go_45 d_Go_isBarred_4 ?_
    refine lv_icmp_ge (tgt := 64) hx hb d_Go_isBarred_7 (by decide) (fun hc => ?_) (fun hc => ?_)
    · have hf := op_t hc hf
      refine lv_iconst (v := 0) hx hb d_Go_isBarred_64 (by decide) ?_
      exact rt_ci C h hr hlk hf (by decide) d_Go_isBarred_65
    · have hf := op_f hc hf
      refine lv_aload_n hx hb d_Go_isBarred_10 rfl (lv_at hl 0 rfl) ?_
      refine cg_3_0 hx hb hT hown hK h.1 fl_Go_11 d_Go_isBarred_11 ?_
      refine lv_iload_n hx hb d_Go_isBarred_14 rfl (lv_at hl 3 rfl) ?_
      obtain ⟨h1, hf⟩ := op_if hf
      obtain ⟨q2, hq2, hf⟩ := op_bind hf
      refine cq_10 hx hb hK h.1 rfl h1 d_Go_isBarred_15 ?_
      rw [op_i1 hq2]
      cases q2 with
      | none =>
        have hf := op_en hf
        refine lv_astoreN (lv' := [(4, .null), (0, .ref (ad 3)), (1, .int v1), (2, .int v2), (3, .int v3)]) hx hb d_Go_isBarred_16 hl (by decide) rfl (fun ls hl => ?_)
        refine lv_aloadN hx hb d_Go_isBarred_18 (lv_at hl 0 rfl) ?_
        refine lv_ifnullN (tgt := 58) hx hb d_Go_isBarred_20 (by decide) ?_
        refine lv_iinc (v := (v3 + 1)) (lv' := [(3, .int (v3 + 1)), (4, .null), (0, .ref (ad 3)), (1, .int v1), (2, .int v2)]) hx hb d_Go_isBarred_58 hl (k := 4) rfl rfl (by decide) rfl (fun ls hl => ?_)
        refine lv_goto (tgt := 2) hx hb d_Go_isBarred_61 (by decide) ?_
        exact ih (v3 + 1) F G P N _ hf ls (lv_sub hl [2, 3, 4, 0] rfl) H locs h
      | some a3 =>
        have hf := op_es hf
        refine lv_astore (lv' := [(4, .ref a3), (0, .ref (ad 3)), (1, .int v1), (2, .int v2), (3, .int v3)]) hx hb d_Go_isBarred_16 hl (by decide) rfl (fun ls hl => ?_)
        refine lv_aload hx hb d_Go_isBarred_18 (lv_at hl 0 rfl) ?_
        refine lv_ifnull hx hb d_Go_isBarred_20 ?_
        refine lv_iload_n hx hb d_Go_isBarred_23 rfl (lv_at hl 2 rfl) ?_
        refine lv_iload_n hx hb d_Go_isBarred_24 rfl (lv_at hl 4 rfl) ?_
        refine lv_ishr hx hb d_Go_isBarred_25 ?_
        refine lv_iconst (v := 1) hx hb d_Go_isBarred_26 (by decide) ?_
        refine lv_iand hx hb d_Go_isBarred_27 ?_
        refine lv_if_ne (tgt := 34) hx hb d_Go_isBarred_28 (by decide) (fun hc => ?_) (fun hc => ?_)
        · have hf := op_f hc hf
          refine lv_aload_n hx hb d_Go_isBarred_34 rfl (lv_at hl 1 rfl) ?_
          refine lv_aload hx hb d_Go_isBarred_35 (lv_at hl 0 rfl) ?_
          refine lv_iload_n hx hb d_Go_isBarred_37 rfl (lv_at hl 2 rfl) ?_
          refine lv_iload_n hx hb d_Go_isBarred_38 rfl (lv_at hl 3 rfl) ?_
          obtain ⟨⟨F6, G7, P8, N9⟩, hc4, hf⟩ := op_bind hf
          try dsimp only at hf
          refine kx_v (C0 := R_Go) (b0 := ad 3) (rest := []) C h hA rfl (va_recv hK h.1 (ci := 1) (q0 := 3) rfl rfl) (c_Go_layFacts l n E a3 v1 v2 F G P N) hc4 (cbW 3 hT cd_Go_layFacts rfl rfl ini_Go ml_Go_101 hd_Go_layFacts ⟨Nat.le_of_ble_eq_true rfl, Nat.le_of_ble_eq_true rfl⟩) im_Go_layFacts sp_Go_layFacts rfl hl.1 rfl (Nat.le_of_ble_eq_true rfl) d_Go_isBarred_39 ⟨Nat.zero_le _, Nat.zero_le _⟩ (fun H locs h => ?_)
          refine lv_aload_n hx hb d_Go_isBarred_42 rfl (lv_at hl 1 rfl) ?_
          refine cg_3_4 hx hb hT hown hK h.1 fl_Go_22 d_Go_isBarred_43 ?_
          refine lv_aload_n hx hb d_Go_isBarred_46 rfl (lv_at hl 1 rfl) ?_
          refine cg_3_5 hx hb hT hown hK h.1 fl_Go_26 d_Go_isBarred_47 ?_
          obtain ⟨h12, hf⟩ := op_if hf
          obtain ⟨x11, hc10, hf⟩ := op_bind hf
          refine kr_i (C := R_Ni) (b0 := (N9 3)) (As := [.ref (ad 17)]) (rest := []) hx hb hml hown hT qB_bl (qB_to (hK.sub [0] rfl) (qX_of ((cpS hpS h).2 (N9 3) h12).1 (h.1 17 _ rfl))) (va_recv hK ((cpS hpS h).2 (N9 3) h12).1 (ci := 4) (q0 := 0) rfl rfl) (c_Ni_bars l n (eT E (N9 3)) (eI E (N9 3)) (eR E (N9 3)) (G7 17) dC dI (nAd E (N9 3)) cI (ad 17) _ hc10) (cbW 1 hT cd_Ni_bars rfl rfl ini_Ni ml_Go_105 hd_Ni_bars ⟨Nat.le_of_ble_eq_true rfl, Nat.le_of_ble_eq_true rfl⟩) im_Ni_bars se_Ni_Ni_bars__Ni_bars rfl hl.1 rfl (Nat.le_of_ble_eq_true rfl) d_Go_isBarred_50 ⟨Nat.zero_le _, Nat.zero_le _⟩ ?_
          refine lv_if_eq (tgt := 58) hx hb d_Go_isBarred_53 (by decide) (fun hc => ?_) (fun hc => ?_)
          · have hf := op_t hc hf
            refine lv_iinc (v := (v3 + 1)) (lv' := [(3, .int (v3 + 1)), (4, .ref a3), (0, .ref (ad 3)), (1, .int v1), (2, .int v2)]) hx hb d_Go_isBarred_58 hl (k := 4) rfl rfl (by decide) rfl (fun ls hl => ?_)
            refine lv_goto (tgt := 2) hx hb d_Go_isBarred_61 (by decide) ?_
            exact ih (v3 + 1) F6 G7 P8 N9 _ hf ls (lv_sub hl [2, 3, 4, 0] rfl) H locs h
          · have hf := op_f hc hf
            refine lv_iconst (v := 1) hx hb d_Go_isBarred_56 (by decide) ?_
            exact rt_ci C h hr hlk hf (by decide) d_Go_isBarred_57
        · have hf := op_t hc hf
          refine lv_goto (tgt := 58) hx hb d_Go_isBarred_31 (by decide) ?_
          refine lv_iinc (v := (v3 + 1)) (lv' := [(3, .int (v3 + 1)), (4, .ref a3), (0, .ref (ad 3)), (1, .int v1), (2, .int v2)]) hx hb d_Go_isBarred_58 hl (k := 4) rfl rfl (by decide) rfl (fun ls hl => ?_)
          refine lv_goto (tgt := 2) hx hb d_Go_isBarred_61 (by decide) ?_
          exact ih (v3 + 1) F G P N _ hf ls (lv_sub hl [2, 3, 4, 0] rfl) H locs h
def p_Go_isBarred (n : Nat) (E : PE) (v1 : Int32) (v2 : Int32) (F : Nat → Nat → Int32) (G : Nat → Nat → Int32) (P : Nat → Nat → Option Nat) (N : Nat → Nat) : Option (Int32 × CU) := l_Go_isBarred_2 n E v1 v2 n 0 F G P N
set_option maxHeartbeats 4000000 in
theorem c_Go_isBarred (l : Launch) (n : Nat) (E : PE) (v1 : Int32) (v2 : Int32) (F : Nat → Nat → Int32) (G : Nat → Nat → Int32) (P : Nat → Nat → Option Nat) (N : Nat → Nat)  : CMi l y_Go_isBarred b_Go_isBarred 5 .boolean (rL 7) E (fun ad => [.ref (ad 3), .int v1, .int v2]) F G P N (p_Go_isBarred n E v1 v2 F G P N) := by
  refine en_ci (by decide) (fun _ => Nat.le_of_ble_eq_true rfl) ?_
  intro z hf p e s m args below meth c dC dI ad cI cZ cW cJ A adK adV ls C hA h hr hlk hl
  have hl : lv_has ls 5 [(0, .ref (ad 3)), (1, .int v1), (2, .int v2)] := hl
  unfold p_Go_isBarred at hf
  obtain ⟨hx, hb, hml, hown, hT, hK, hTS, hTR, hpS, hi⟩ := id C
  refine lv_iconst (v := 0) hx hb d_Go_isBarred_0 (by decide) ?_
  refine lv_istore_n (lv' := [(3, .int 0), (0, .ref (ad 3)), (1, .int v1), (2, .int v2)]) hx hb d_Go_isBarred_1 rfl hl (by decide) rfl (fun ls hl => ?_)
  exact wl_Go_isBarred_2 C hA hr hlk n v1 v2 n 0 F G P N _ hf ls (lv_sub hl [1, 2, 3, 0] rfl) s.heap [] h
theorem hd_Go_layMinutes : y_Go_layMinutes.cls ≠ "java/lang/invoke/MethodHandle" ∧ y_Go_layMinutes.cls ≠ "java/lang/invoke/VarHandle" ∧ (parseMethodDescriptor y_Go_layMinutes.desc).map (fun d => d.parameters.length) = some 1 := by decide +kernel
theorem d_Go_layMinutes_0 : decode b_Go_layMinutes 0 = .ok (.iconst 1, 1) := by decide +kernel
theorem d_Go_layMinutes_1 : decode b_Go_layMinutes 1 = .ok (.istore_n 2, 1) := by decide +kernel
theorem d_Go_layMinutes_2 : decode b_Go_layMinutes 2 = .ok (.iload_n 2, 1) := by decide +kernel
theorem d_Go_layMinutes_3 : decode b_Go_layMinutes 3 = .ok (.aload_n 0, 1) := by decide +kernel
theorem d_Go_layMinutes_4 : decode b_Go_layMinutes 4 = .ok (.getfield 50, 3) := by decide +kernel
theorem d_Go_layMinutes_7 : decode b_Go_layMinutes 7 = .ok (.if_icmp .gt 115, 3) := by decide +kernel
theorem d_Go_layMinutes_10 : decode b_Go_layMinutes 10 = .ok (.iload_n 2, 1) := by decide +kernel
theorem d_Go_layMinutes_11 : decode b_Go_layMinutes 11 = .ok (.iload_n 1, 1) := by decide +kernel
theorem d_Go_layMinutes_12 : decode b_Go_layMinutes 12 = .ok (.iand, 1) := by decide +kernel
theorem d_Go_layMinutes_13 : decode b_Go_layMinutes 13 = .ok (.ifCond .ne 6, 3) := by decide +kernel
theorem d_Go_layMinutes_16 : decode b_Go_layMinutes 16 = .ok (.goto 100, 3) := by decide +kernel
theorem d_Go_layMinutes_19 : decode b_Go_layMinutes 19 = .ok (.aload_n 0, 1) := by decide +kernel
theorem d_Go_layMinutes_20 : decode b_Go_layMinutes 20 = .ok (.getfield 32, 3) := by decide +kernel
theorem d_Go_layMinutes_23 : decode b_Go_layMinutes 23 = .ok (.iconst 0, 1) := by decide +kernel
theorem d_Go_layMinutes_24 : decode b_Go_layMinutes 24 = .ok (.aaload, 1) := by decide +kernel
theorem d_Go_layMinutes_25 : decode b_Go_layMinutes 25 = .ok (.iload_n 2, 1) := by decide +kernel
theorem d_Go_layMinutes_26 : decode b_Go_layMinutes 26 = .ok (.iconst 0, 1) := by decide +kernel
theorem d_Go_layMinutes_27 : decode b_Go_layMinutes 27 = .ok (.iastore, 1) := by decide +kernel
theorem d_Go_layMinutes_28 : decode b_Go_layMinutes 28 = .ok (.aload_n 0, 1) := by decide +kernel
theorem d_Go_layMinutes_29 : decode b_Go_layMinutes 29 = .ok (.getfield 32, 3) := by decide +kernel
theorem d_Go_layMinutes_32 : decode b_Go_layMinutes 32 = .ok (.iconst 1, 1) := by decide +kernel
theorem d_Go_layMinutes_33 : decode b_Go_layMinutes 33 = .ok (.aaload, 1) := by decide +kernel
theorem d_Go_layMinutes_34 : decode b_Go_layMinutes 34 = .ok (.iload_n 2, 1) := by decide +kernel
theorem d_Go_layMinutes_35 : decode b_Go_layMinutes 35 = .ok (.iconst 0, 1) := by decide +kernel
theorem d_Go_layMinutes_36 : decode b_Go_layMinutes 36 = .ok (.iastore, 1) := by decide +kernel
theorem d_Go_layMinutes_37 : decode b_Go_layMinutes 37 = .ok (.iconst 0, 1) := by decide +kernel
theorem d_Go_layMinutes_38 : decode b_Go_layMinutes 38 = .ok (.istore_n 3, 1) := by decide +kernel
theorem d_Go_layMinutes_39 : decode b_Go_layMinutes 39 = .ok (.iload_n 3, 1) := by decide +kernel
theorem d_Go_layMinutes_40 : decode b_Go_layMinutes 40 = .ok (.aload_n 0, 1) := by decide +kernel
theorem d_Go_layMinutes_41 : decode b_Go_layMinutes 41 = .ok (.getfield 45, 3) := by decide +kernel
theorem d_Go_layMinutes_44 : decode b_Go_layMinutes 44 = .ok (.if_icmp .ge 72, 3) := by decide +kernel
theorem d_Go_layMinutes_47 : decode b_Go_layMinutes 47 = .ok (.iload_n 2, 1) := by decide +kernel
theorem d_Go_layMinutes_48 : decode b_Go_layMinutes 48 = .ok (.iload_n 3, 1) := by decide +kernel
theorem d_Go_layMinutes_49 : decode b_Go_layMinutes 49 = .ok (.ishr, 1) := by decide +kernel
theorem d_Go_layMinutes_50 : decode b_Go_layMinutes 50 = .ok (.iconst 1, 1) := by decide +kernel
theorem d_Go_layMinutes_51 : decode b_Go_layMinutes 51 = .ok (.iand, 1) := by decide +kernel
theorem d_Go_layMinutes_52 : decode b_Go_layMinutes 52 = .ok (.ifCond .ne 6, 3) := by decide +kernel
theorem d_Go_layMinutes_55 : decode b_Go_layMinutes 55 = .ok (.goto 55, 3) := by decide +kernel
theorem d_Go_layMinutes_58 : decode b_Go_layMinutes 58 = .ok (.aload_n 0, 1) := by decide +kernel
theorem d_Go_layMinutes_59 : decode b_Go_layMinutes 59 = .ok (.getfield 32, 3) := by decide +kernel
theorem d_Go_layMinutes_62 : decode b_Go_layMinutes 62 = .ok (.iconst 0, 1) := by decide +kernel
theorem d_Go_layMinutes_63 : decode b_Go_layMinutes 63 = .ok (.aaload, 1) := by decide +kernel
theorem d_Go_layMinutes_64 : decode b_Go_layMinutes 64 = .ok (.iload_n 2, 1) := by decide +kernel
theorem d_Go_layMinutes_65 : decode b_Go_layMinutes 65 = .ok (.aload_n 0, 1) := by decide +kernel
theorem d_Go_layMinutes_66 : decode b_Go_layMinutes 66 = .ok (.getfield 32, 3) := by decide +kernel
theorem d_Go_layMinutes_69 : decode b_Go_layMinutes 69 = .ok (.iconst 0, 1) := by decide +kernel
theorem d_Go_layMinutes_70 : decode b_Go_layMinutes 70 = .ok (.aaload, 1) := by decide +kernel
theorem d_Go_layMinutes_71 : decode b_Go_layMinutes 71 = .ok (.iload_n 2, 1) := by decide +kernel
theorem d_Go_layMinutes_72 : decode b_Go_layMinutes 72 = .ok (.iaload, 1) := by decide +kernel
theorem d_Go_layMinutes_73 : decode b_Go_layMinutes 73 = .ok (.aload_n 0, 1) := by decide +kernel
theorem d_Go_layMinutes_74 : decode b_Go_layMinutes 74 = .ok (.iload_n 3, 1) := by decide +kernel
theorem d_Go_layMinutes_75 : decode b_Go_layMinutes 75 = .ok (.iload_n 2, 1) := by decide +kernel
theorem d_Go_layMinutes_76 : decode b_Go_layMinutes 76 = .ok (.iconst 0, 1) := by decide +kernel
theorem d_Go_layMinutes_77 : decode b_Go_layMinutes 77 = .ok (.invokevirtual 68, 3) := by decide +kernel
theorem d_Go_layMinutes_80 : decode b_Go_layMinutes 80 = .ok (.invokestatic 72, 3) := by decide +kernel
theorem d_Go_layMinutes_83 : decode b_Go_layMinutes 83 = .ok (.iastore, 1) := by decide +kernel
theorem d_Go_layMinutes_84 : decode b_Go_layMinutes 84 = .ok (.aload_n 0, 1) := by decide +kernel
theorem d_Go_layMinutes_85 : decode b_Go_layMinutes 85 = .ok (.getfield 32, 3) := by decide +kernel
theorem d_Go_layMinutes_88 : decode b_Go_layMinutes 88 = .ok (.iconst 1, 1) := by decide +kernel
theorem d_Go_layMinutes_89 : decode b_Go_layMinutes 89 = .ok (.aaload, 1) := by decide +kernel
theorem d_Go_layMinutes_90 : decode b_Go_layMinutes 90 = .ok (.iload_n 2, 1) := by decide +kernel
theorem d_Go_layMinutes_91 : decode b_Go_layMinutes 91 = .ok (.aload_n 0, 1) := by decide +kernel
theorem d_Go_layMinutes_92 : decode b_Go_layMinutes 92 = .ok (.getfield 32, 3) := by decide +kernel
theorem d_Go_layMinutes_95 : decode b_Go_layMinutes 95 = .ok (.iconst 1, 1) := by decide +kernel
theorem d_Go_layMinutes_96 : decode b_Go_layMinutes 96 = .ok (.aaload, 1) := by decide +kernel
theorem d_Go_layMinutes_97 : decode b_Go_layMinutes 97 = .ok (.iload_n 2, 1) := by decide +kernel
theorem d_Go_layMinutes_98 : decode b_Go_layMinutes 98 = .ok (.iaload, 1) := by decide +kernel
theorem d_Go_layMinutes_99 : decode b_Go_layMinutes 99 = .ok (.aload_n 0, 1) := by decide +kernel
theorem d_Go_layMinutes_100 : decode b_Go_layMinutes 100 = .ok (.iload_n 3, 1) := by decide +kernel
theorem d_Go_layMinutes_101 : decode b_Go_layMinutes 101 = .ok (.iload_n 2, 1) := by decide +kernel
theorem d_Go_layMinutes_102 : decode b_Go_layMinutes 102 = .ok (.iconst 1, 1) := by decide +kernel
theorem d_Go_layMinutes_103 : decode b_Go_layMinutes 103 = .ok (.invokevirtual 68, 3) := by decide +kernel
theorem d_Go_layMinutes_106 : decode b_Go_layMinutes 106 = .ok (.invokestatic 72, 3) := by decide +kernel
theorem d_Go_layMinutes_109 : decode b_Go_layMinutes 109 = .ok (.iastore, 1) := by decide +kernel
theorem d_Go_layMinutes_110 : decode b_Go_layMinutes 110 = .ok (.iinc 3 1, 3) := by decide +kernel
theorem d_Go_layMinutes_113 : decode b_Go_layMinutes 113 = .ok (.goto (-74), 3) := by decide +kernel
theorem d_Go_layMinutes_116 : decode b_Go_layMinutes 116 = .ok (.iinc 2 1, 3) := by decide +kernel
theorem d_Go_layMinutes_119 : decode b_Go_layMinutes 119 = .ok (.goto (-117), 3) := by decide +kernel
theorem d_Go_layMinutes_122 : decode b_Go_layMinutes 122 = .ok (.return_, 1) := by decide +kernel
def l_Go_layMinutes_39 (n : Nat) (E : PE)  (v1 : Int32) (v2 : Int32)  : Nat → Int32 → (Nat → Nat → Int32) → (Nat → Nat → Int32) → (Nat → Nat → Option Nat) → (Nat → Nat) → Option ((Nat → Nat → Int32) × (Nat → Nat → Int32) × (Nat → Nat → Option Nat) × (Nat → Nat))
  | 0, _, _, _, _, _ => none
  | k + 1, v3, F, G, P, N => (if (F 3 1) ≤ v3 then some (F, G, P, N) else (if ((v2 >>> (v3 &&& 31)) &&& 1) = 0 then some (F, G, P, N) else if ix v2 64 then (p_Go_takenBy n E v3 v2 0 F G P N).bind fun (x15, F16, G17, P18, N19) => if ix v2 64 then if ix v2 64 then (p_Go_takenBy n E v3 v2 1 F16 (upR G17 19 v2.toNatClampNeg (jmax (G 19 v2.toNatClampNeg) x15)) P18 N19).bind fun (x23, F24, G25, P26, N27) => if ix v2 64 then some (F24, (upR G25 20 v2.toNatClampNeg (jmax ((upR G17 19 v2.toNatClampNeg (jmax (G 19 v2.toNatClampNeg) x15)) 20 v2.toNatClampNeg) x23)), P26, N27) else none else none else none else none : Option ((Nat → Nat → Int32) × (Nat → Nat → Int32) × (Nat → Nat → Option Nat) × (Nat → Nat))).bind fun (F9, G10, P11, N12) => l_Go_layMinutes_39 n E v1 v2 k (v3 + 1) F9 G10 P11 N12)
set_option maxHeartbeats 4000000 in
theorem wl_Go_layMinutes_39 {Q : State → Prop}  {p : Program} {l : Launch} {e : Env} {s : State} {m : MethodId} {args : Array Value} {below : List Frame} {meth : Method} {c : Code} {dC : Nat → ClassId} {dI : Nat → Nat → Nat} {ad : Nat → Nat} {cI cZ cW cJ : ClassId} {A : Nat → Prop} {adK adV : Nat → Nat} {E : PE} (C : cC p s m args c b_Go_layMinutes 4 "LanternBridge$Goings" dC dI cI cZ cW cJ A adK adV E) (hA : ∀ q, s.heap.size ≤ q → A q) (hr : meth.sig.returnType = none) (hlk : meth.locks = false) (n : Nat)  (v1 : Int32) (v2 : Int32)  : ∀ (k : Nat) (v3 : Int32) (F : Nat → Nat → Int32) (G : Nat → Nat → Int32) (P : Nat → Nat → Option Nat) (N : Nat → Nat) (r0 : Nat → Nat → Int32) (r1 : Nat → Nat → Int32) (r2 : Nat → Nat → Option Nat) (r3 : Nat → Nat), l_Go_layMinutes_39 n E v1 v2 k v3 F G P N = some (r0, r1, r2, r3) → (∀ (ls : Array Slot), lv_has ls 4 [(0, .ref (ad 3)), (1, .int v1), (2, .int v2)] → ∀ (H : Heap) (locs : List Loc), cH A s.heap dC dI ad cI cZ cW cJ r0 r1 r2 r3 H locs → W p l e (rL 13) s m args below meth c H locs 0 0 Q (F0 m 116 ls [])) → ∀ (ls : Array Slot), lv_has ls 4 [(0, .ref (ad 3)), (1, .int v1), (2, .int v2), (3, .int v3)] → ∀ (H : Heap) (locs : List Loc), cH A s.heap dC dI ad cI cZ cW cJ F G P N H locs → W p l e (rL 13) s m args below meth c H locs 0 0 Q (F0 m 39 ls []) := by
  obtain ⟨hx, hb, hml, hown, hT, hK, hTS, hTR, hpS, hi⟩ := id C
  intro k
  induction k with
  | zero => intro v3 F G P N r0 r1 r2 r3 hf; exact absurd hf (by unfold l_Go_layMinutes_39; exact fun h9 => by cases h9)
  | succ k ih =>
    intro v3 F G P N r0 r1 r2 r3 hf K ls hl H locs h
    unfold l_Go_layMinutes_39 at hf
    refine lv_iload_n hx hb d_Go_layMinutes_39 rfl (lv_at hl 3 rfl) ?_
    refine lv_aload_n hx hb d_Go_layMinutes_40 rfl (lv_at hl 0 rfl) ?_
    refine cg_3_1 hx hb hT hown hK h.1 fl_Go_45 d_Go_layMinutes_41 ?_
    refine lv_icmp_ge (tgt := 116) hx hb d_Go_layMinutes_44 (by decide) (fun hc => ?_) (fun hc => ?_)
    · have hf := op_t hc hf
      obtain ⟨rfl, rfl, rfl, rfl⟩ := op_i4 hf
      exact K ls (lv_sub hl [0, 1, 2] rfl) H locs h
    · have hf := op_f hc hf
      refine lv_iload_n hx hb d_Go_layMinutes_47 rfl (lv_at hl 2 rfl) ?_
      refine lv_iload_n hx hb d_Go_layMinutes_48 rfl (lv_at hl 3 rfl) ?_
      refine lv_ishr hx hb d_Go_layMinutes_49 ?_
      refine lv_iconst (v := 1) hx hb d_Go_layMinutes_50 (by decide) ?_
      refine lv_iand hx hb d_Go_layMinutes_51 ?_
      obtain ⟨⟨F9, G10, P11, N12⟩, he, hf⟩ := op_bind hf
      try dsimp only at hf
      have K8 : ∀ (ls : Array Slot), lv_has ls 4 [(0, .ref (ad 3)), (1, .int v1), (2, .int v2), (3, .int v3)] → ∀ (H : Heap) (locs : List Loc), cH A s.heap dC dI ad cI cZ cW cJ F9 G10 P11 N12 H locs → W p l e (rL 13) s m args below meth c H locs 0 0 Q (F0 m 110 ls []) := by
        intro ls hl H locs h
        refine lv_iinc (v := (v3 + 1)) (lv' := [(3, .int (v3 + 1)), (0, .ref (ad 3)), (1, .int v1), (2, .int v2)]) hx hb d_Go_layMinutes_110 hl (k := 3) rfl rfl (by decide) rfl (fun ls hl => ?_)
        refine lv_goto (tgt := 39) hx hb d_Go_layMinutes_113 (by decide) ?_
        exact ih (v3 + 1) F9 G10 P11 N12 _ _ _ _ hf K ls (lv_sub hl [1, 2, 3, 0] rfl) H locs h
      have hf := he
      refine lv_if_ne (tgt := 58) hx hb d_Go_layMinutes_52 (by decide) (fun hc => ?_) (fun hc => ?_)
      · have hf := op_f hc hf
        refine lv_aload_n hx hb d_Go_layMinutes_58 rfl (lv_at hl 0 rfl) ?_
        refine cg_3_6 hx hb hT hown hK h.1 fl_Go_32 d_Go_layMinutes_59 ?_
        refine lv_iconst (v := 0) hx hb d_Go_layMinutes_62 (by decide) ?_
        refine co_18 hx hb hK h.1 (j := 0) (by decide) (show ix 0 2 by decide) d_Go_layMinutes_63 ?_
        refine lv_iload_n hx hb d_Go_layMinutes_64 rfl (lv_at hl 2 rfl) ?_
        refine lv_aload_n hx hb d_Go_layMinutes_65 rfl (lv_at hl 0 rfl) ?_
        refine cg_3_6 hx hb hT hown hK h.1 fl_Go_32 d_Go_layMinutes_66 ?_
        refine lv_iconst (v := 0) hx hb d_Go_layMinutes_69 (by decide) ?_
        refine co_18 hx hb hK h.1 (j := 0) (by decide) (show ix 0 2 by decide) d_Go_layMinutes_70 ?_
        refine lv_iload_n hx hb d_Go_layMinutes_71 rfl (lv_at hl 2 rfl) ?_
        obtain ⟨h13, hf⟩ := op_if hf
        refine ca_19 hx hb hK h.1 rfl h13 d_Go_layMinutes_72 ?_
        refine lv_aload_n hx hb d_Go_layMinutes_73 rfl (lv_at hl 0 rfl) ?_
        refine lv_iload_n hx hb d_Go_layMinutes_74 rfl (lv_at hl 3 rfl) ?_
        refine lv_iload_n hx hb d_Go_layMinutes_75 rfl (lv_at hl 2 rfl) ?_
        refine lv_iconst (v := 0) hx hb d_Go_layMinutes_76 (by decide) ?_
        obtain ⟨⟨x15, F16, G17, P18, N19⟩, hc14, hf⟩ := op_bind hf
        try dsimp only at hf
        refine kx_i (C0 := R_Go) (b0 := ad 3) (rest := [.int (G 19 v2.toNatClampNeg), .int v2, .ref (ad 19)]) C h hA rfl (va_recv hK h.1 (ci := 1) (q0 := 3) rfl rfl) (c_Go_takenBy l n E v3 v2 0 F G P N) hc14 (cbW 3 hT cd_Go_takenBy rfl rfl ini_Go ml_Go_68 hd_Go_takenBy ⟨Nat.le_of_ble_eq_true rfl, Nat.le_of_ble_eq_true rfl⟩) im_Go_takenBy se_Go_Go_takenBy__Go_takenBy rfl hl.1 rfl (Nat.le_of_ble_eq_true rfl) d_Go_layMinutes_77 ⟨Nat.zero_le _, Nat.zero_le _⟩ (fun H locs h => ?_)
        refine k_jmax hx hb hml hown hl.1 (hT _ ml_Go_72) hT d_Go_layMinutes_80 (Nat.le_of_ble_eq_true rfl) (Nat.le_of_ble_eq_true rfl) (Nat.le_of_ble_eq_true rfl) ⟨Nat.zero_le _, Nat.zero_le _⟩ ?_
        obtain ⟨h20, hf⟩ := op_if hf
        refine cs_19 hx hb hK h rfl h20 d_Go_layMinutes_83 (fun H locs h => ?_)
        refine lv_aload_n hx hb d_Go_layMinutes_84 rfl (lv_at hl 0 rfl) ?_
        refine cg_3_6 hx hb hT hown hK h.1 fl_Go_32 d_Go_layMinutes_85 ?_
        refine lv_iconst (v := 1) hx hb d_Go_layMinutes_88 (by decide) ?_
        refine co_18 hx hb hK h.1 (j := 1) (by decide) (show ix 1 2 by decide) d_Go_layMinutes_89 ?_
        refine lv_iload_n hx hb d_Go_layMinutes_90 rfl (lv_at hl 2 rfl) ?_
        refine lv_aload_n hx hb d_Go_layMinutes_91 rfl (lv_at hl 0 rfl) ?_
        refine cg_3_6 hx hb hT hown hK h.1 fl_Go_32 d_Go_layMinutes_92 ?_
        refine lv_iconst (v := 1) hx hb d_Go_layMinutes_95 (by decide) ?_
        refine co_18 hx hb hK h.1 (j := 1) (by decide) (show ix 1 2 by decide) d_Go_layMinutes_96 ?_
        refine lv_iload_n hx hb d_Go_layMinutes_97 rfl (lv_at hl 2 rfl) ?_
        obtain ⟨h21, hf⟩ := op_if hf
        refine ca_20 hx hb hK h.1 rfl h21 d_Go_layMinutes_98 ?_
        refine lv_aload_n hx hb d_Go_layMinutes_99 rfl (lv_at hl 0 rfl) ?_
        refine lv_iload_n hx hb d_Go_layMinutes_100 rfl (lv_at hl 3 rfl) ?_
        refine lv_iload_n hx hb d_Go_layMinutes_101 rfl (lv_at hl 2 rfl) ?_
        refine lv_iconst (v := 1) hx hb d_Go_layMinutes_102 (by decide) ?_
        obtain ⟨⟨x23, F24, G25, P26, N27⟩, hc22, hf⟩ := op_bind hf
        try dsimp only at hf
        refine kx_i (C0 := R_Go) (b0 := ad 3) (rest := [.int ((upR G17 19 v2.toNatClampNeg (jmax (G 19 v2.toNatClampNeg) x15)) 20 v2.toNatClampNeg), .int v2, .ref (ad 20)]) C h hA rfl (va_recv hK h.1 (ci := 1) (q0 := 3) rfl rfl) (c_Go_takenBy l n E v3 v2 1 F16 (upR G17 19 v2.toNatClampNeg (jmax (G 19 v2.toNatClampNeg) x15)) P18 N19) hc22 (cbW 3 hT cd_Go_takenBy rfl rfl ini_Go ml_Go_68 hd_Go_takenBy ⟨Nat.le_of_ble_eq_true rfl, Nat.le_of_ble_eq_true rfl⟩) im_Go_takenBy se_Go_Go_takenBy__Go_takenBy rfl hl.1 rfl (Nat.le_of_ble_eq_true rfl) d_Go_layMinutes_103 ⟨Nat.zero_le _, Nat.zero_le _⟩ (fun H locs h => ?_)
        refine k_jmax hx hb hml hown hl.1 (hT _ ml_Go_72) hT d_Go_layMinutes_106 (Nat.le_of_ble_eq_true rfl) (Nat.le_of_ble_eq_true rfl) (Nat.le_of_ble_eq_true rfl) ⟨Nat.zero_le _, Nat.zero_le _⟩ ?_
        obtain ⟨h28, hf⟩ := op_if hf
        refine cs_20 hx hb hK h rfl h28 d_Go_layMinutes_109 (fun H locs h => ?_)
        obtain ⟨rfl, rfl, rfl, rfl⟩ := op_i4 hf
        exact K8 ls (lv_sub hl [0, 1, 2, 3] rfl) H locs h
      · have hf := op_t hc hf
        refine lv_goto (tgt := 110) hx hb d_Go_layMinutes_55 (by decide) ?_
        obtain ⟨rfl, rfl, rfl, rfl⟩ := op_i4 hf
        exact K8 ls (lv_sub hl [0, 1, 2, 3] rfl) H locs h
def l_Go_layMinutes_2 (n : Nat) (E : PE)  (v1 : Int32)  : Nat → Int32 → (Nat → Nat → Int32) → (Nat → Nat → Int32) → (Nat → Nat → Option Nat) → (Nat → Nat) → Option ((Nat → Nat → Int32) × (Nat → Nat → Int32) × (Nat → Nat → Option Nat) × (Nat → Nat))
  | 0, _, _, _, _, _ => none
  | k + 1, v2, F, G, P, N => (if (F 3 2) < v2 then some (F, G, P, N) else (if (v2 &&& v1) = 0 then some (F, G, P, N) else if ix v2 64 then if ix v2 64 then (l_Go_layMinutes_39 n E v1 v2 n 0 F (upR (upR G 19 v2.toNatClampNeg 0) 20 v2.toNatClampNeg 0) P N).bind fun (F29, G30, P31, N32) => some (F29, G30, P31, N32) else none else none : Option ((Nat → Nat → Int32) × (Nat → Nat → Int32) × (Nat → Nat → Option Nat) × (Nat → Nat))).bind fun (F2, G3, P4, N5) => l_Go_layMinutes_2 n E v1 k (v2 + 1) F2 G3 P4 N5)
set_option maxHeartbeats 4000000 in
theorem wl_Go_layMinutes_2 {Q : State → Prop}  {p : Program} {l : Launch} {e : Env} {s : State} {m : MethodId} {args : Array Value} {below : List Frame} {meth : Method} {c : Code} {dC : Nat → ClassId} {dI : Nat → Nat → Nat} {ad : Nat → Nat} {cI cZ cW cJ : ClassId} {A : Nat → Prop} {adK adV : Nat → Nat} {E : PE} (C : cC p s m args c b_Go_layMinutes 4 "LanternBridge$Goings" dC dI cI cZ cW cJ A adK adV E) (hA : ∀ q, s.heap.size ≤ q → A q) (hr : meth.sig.returnType = none) (hlk : meth.locks = false) (n : Nat)  (v1 : Int32)  : ∀ (k : Nat) (v2 : Int32) (F : Nat → Nat → Int32) (G : Nat → Nat → Int32) (P : Nat → Nat → Option Nat) (N : Nat → Nat) (r0 : Nat → Nat → Int32) (r1 : Nat → Nat → Int32) (r2 : Nat → Nat → Option Nat) (r3 : Nat → Nat), l_Go_layMinutes_2 n E v1 k v2 F G P N = some (r0, r1, r2, r3) → (∀ (ls : Array Slot), lv_has ls 4 [] → ∀ (H : Heap) (locs : List Loc), cH A s.heap dC dI ad cI cZ cW cJ r0 r1 r2 r3 H locs → W p l e (rL 13) s m args below meth c H locs 0 0 Q (F0 m 122 ls [])) → ∀ (ls : Array Slot), lv_has ls 4 [(0, .ref (ad 3)), (1, .int v1), (2, .int v2)] → ∀ (H : Heap) (locs : List Loc), cH A s.heap dC dI ad cI cZ cW cJ F G P N H locs → W p l e (rL 13) s m args below meth c H locs 0 0 Q (F0 m 2 ls []) := by
  obtain ⟨hx, hb, hml, hown, hT, hK, hTS, hTR, hpS, hi⟩ := id C
  intro k
  induction k with
  | zero => intro v2 F G P N r0 r1 r2 r3 hf; exact absurd hf (by unfold l_Go_layMinutes_2; exact fun h9 => by cases h9)
  | succ k ih =>
    intro v2 F G P N r0 r1 r2 r3 hf K ls hl H locs h
    unfold l_Go_layMinutes_2 at hf
    refine lv_iload_n hx hb d_Go_layMinutes_2 rfl (lv_at hl 2 rfl) ?_
    refine lv_aload_n hx hb d_Go_layMinutes_3 rfl (lv_at hl 0 rfl) ?_
    refine cg_3_2 hx hb hT hown hK h.1 fl_Go_50 d_Go_layMinutes_4 ?_
    refine lv_icmp_gt (tgt := 122) hx hb d_Go_layMinutes_7 (by decide) (fun hc => ?_) (fun hc => ?_)
    · have hf := op_t hc hf
      obtain ⟨rfl, rfl, rfl, rfl⟩ := op_i4 hf
      exact K ls (lv_sub hl [] rfl) H locs h
    · have hf := op_f hc hf
      refine lv_iload_n hx hb d_Go_layMinutes_10 rfl (lv_at hl 2 rfl) ?_
      refine lv_iload_n hx hb d_Go_layMinutes_11 rfl (lv_at hl 1 rfl) ?_
      refine lv_iand hx hb d_Go_layMinutes_12 ?_
      obtain ⟨⟨F2, G3, P4, N5⟩, he, hf⟩ := op_bind hf
      try dsimp only at hf
      have K1 : ∀ (ls : Array Slot), lv_has ls 4 [(0, .ref (ad 3)), (1, .int v1), (2, .int v2)] → ∀ (H : Heap) (locs : List Loc), cH A s.heap dC dI ad cI cZ cW cJ F2 G3 P4 N5 H locs → W p l e (rL 13) s m args below meth c H locs 0 0 Q (F0 m 116 ls []) := by
        intro ls hl H locs h
        refine lv_iinc (v := (v2 + 1)) (lv' := [(2, .int (v2 + 1)), (0, .ref (ad 3)), (1, .int v1)]) hx hb d_Go_layMinutes_116 hl (k := 2) rfl rfl (by decide) rfl (fun ls hl => ?_)
        refine lv_goto (tgt := 2) hx hb d_Go_layMinutes_119 (by decide) ?_
        exact ih (v2 + 1) F2 G3 P4 N5 _ _ _ _ hf K ls (lv_sub hl [1, 2, 0] rfl) H locs h
      have hf := he
      refine lv_if_ne (tgt := 19) hx hb d_Go_layMinutes_13 (by decide) (fun hc => ?_) (fun hc => ?_)
      · have hf := op_f hc hf
        refine lv_aload_n hx hb d_Go_layMinutes_19 rfl (lv_at hl 0 rfl) ?_
        refine cg_3_6 hx hb hT hown hK h.1 fl_Go_32 d_Go_layMinutes_20 ?_
        refine lv_iconst (v := 0) hx hb d_Go_layMinutes_23 (by decide) ?_
        refine co_18 hx hb hK h.1 (j := 0) (by decide) (show ix 0 2 by decide) d_Go_layMinutes_24 ?_
        refine lv_iload_n hx hb d_Go_layMinutes_25 rfl (lv_at hl 2 rfl) ?_
        refine lv_iconst (v := 0) hx hb d_Go_layMinutes_26 (by decide) ?_
        obtain ⟨h6, hf⟩ := op_if hf
        refine cs_19 hx hb hK h rfl h6 d_Go_layMinutes_27 (fun H locs h => ?_)
        refine lv_aload_n hx hb d_Go_layMinutes_28 rfl (lv_at hl 0 rfl) ?_
        refine cg_3_6 hx hb hT hown hK h.1 fl_Go_32 d_Go_layMinutes_29 ?_
        refine lv_iconst (v := 1) hx hb d_Go_layMinutes_32 (by decide) ?_
        refine co_18 hx hb hK h.1 (j := 1) (by decide) (show ix 1 2 by decide) d_Go_layMinutes_33 ?_
        refine lv_iload_n hx hb d_Go_layMinutes_34 rfl (lv_at hl 2 rfl) ?_
        refine lv_iconst (v := 0) hx hb d_Go_layMinutes_35 (by decide) ?_
        obtain ⟨h7, hf⟩ := op_if hf
        refine cs_20 hx hb hK h rfl h7 d_Go_layMinutes_36 (fun H locs h => ?_)
        refine lv_iconst (v := 0) hx hb d_Go_layMinutes_37 (by decide) ?_
        refine lv_istore_n (lv' := [(3, .int 0), (0, .ref (ad 3)), (1, .int v1), (2, .int v2)]) hx hb d_Go_layMinutes_38 rfl hl (by decide) rfl (fun ls hl => ?_)
        obtain ⟨⟨F29, G30, P31, N32⟩, he, hf⟩ := op_bind hf
        try dsimp only at hf
        refine wl_Go_layMinutes_39 C hA hr hlk n v1 v2 n 0 F (upR (upR G 19 v2.toNatClampNeg 0) 20 v2.toNatClampNeg 0) P N _ _ _ _ he (fun ls hl H locs h => ?_) ls (lv_sub hl [1, 2, 3, 0] rfl) H locs h
        obtain ⟨rfl, rfl, rfl, rfl⟩ := op_i4 hf
        exact K1 ls (lv_sub hl [0, 1, 2] rfl) H locs h
      · have hf := op_t hc hf
        refine lv_goto (tgt := 116) hx hb d_Go_layMinutes_16 (by decide) ?_
        obtain ⟨rfl, rfl, rfl, rfl⟩ := op_i4 hf
        exact K1 ls (lv_sub hl [0, 1, 2] rfl) H locs h
def p_Go_layMinutes (n : Nat) (E : PE) (v1 : Int32) (F : Nat → Nat → Int32) (G : Nat → Nat → Int32) (P : Nat → Nat → Option Nat) (N : Nat → Nat) : Option (CU) := (l_Go_layMinutes_2 n E v1 n 1 F G P N).bind fun (F33, G34, P35, N36) => some (F33, G34, P35, N36)
set_option maxHeartbeats 4000000 in
theorem c_Go_layMinutes (l : Launch) (n : Nat) (E : PE) (v1 : Int32) (F : Nat → Nat → Int32) (G : Nat → Nat → Int32) (P : Nat → Nat → Option Nat) (N : Nat → Nat)  : CMv l y_Go_layMinutes b_Go_layMinutes 4 (rL 13) E (fun ad => [.ref (ad 3), .int v1]) F G P N (p_Go_layMinutes n E v1 F G P N) := by
  refine en_cv (by decide) (fun _ => Nat.le_of_ble_eq_true rfl) ?_
  intro z hf p e s m args below meth c dC dI ad cI cZ cW cJ A adK adV ls C hA h hr hlk hl
  have hl : lv_has ls 4 [(0, .ref (ad 3)), (1, .int v1)] := hl
  unfold p_Go_layMinutes at hf
  obtain ⟨hx, hb, hml, hown, hT, hK, hTS, hTR, hpS, hi⟩ := id C
  refine lv_iconst (v := 1) hx hb d_Go_layMinutes_0 (by decide) ?_
  refine lv_istore_n (lv' := [(2, .int 1), (0, .ref (ad 3)), (1, .int v1)]) hx hb d_Go_layMinutes_1 rfl hl (by decide) rfl (fun ls hl => ?_)
  obtain ⟨⟨F33, G34, P35, N36⟩, he, hf⟩ := op_bind hf
  try dsimp only at hf
  refine wl_Go_layMinutes_2 C hA hr hlk n v1 n 1 F G P N _ _ _ _ he (fun ls hl H locs h => ?_) ls (lv_sub hl [1, 2, 0] rfl) s.heap [] h
  exact rt_cv C h hr hlk hf d_Go_layMinutes_122
theorem hd_Go_layCan : y_Go_layCan.cls ≠ "java/lang/invoke/MethodHandle" ∧ y_Go_layCan.cls ≠ "java/lang/invoke/VarHandle" ∧ (parseMethodDescriptor y_Go_layCan.desc).map (fun d => d.parameters.length) = some 0 := by decide +kernel
theorem d_Go_layCan_0 : decode b_Go_layCan 0 = .ok (.iconst 1, 1) := by decide +kernel
theorem d_Go_layCan_1 : decode b_Go_layCan 1 = .ok (.istore_n 1, 1) := by decide +kernel
theorem d_Go_layCan_2 : decode b_Go_layCan 2 = .ok (.iload_n 1, 1) := by decide +kernel
theorem d_Go_layCan_3 : decode b_Go_layCan 3 = .ok (.aload_n 0, 1) := by decide +kernel
theorem d_Go_layCan_4 : decode b_Go_layCan 4 = .ok (.getfield 50, 3) := by decide +kernel
theorem d_Go_layCan_7 : decode b_Go_layCan 7 = .ok (.if_icmp .gt 67, 3) := by decide +kernel
theorem d_Go_layCan_10 : decode b_Go_layCan 10 = .ok (.aload_n 0, 1) := by decide +kernel
theorem d_Go_layCan_11 : decode b_Go_layCan 11 = .ok (.iload_n 1, 1) := by decide +kernel
theorem d_Go_layCan_12 : decode b_Go_layCan 12 = .ok (.invokevirtual 78, 3) := by decide +kernel
theorem d_Go_layCan_15 : decode b_Go_layCan 15 = .ok (.istore_n 2, 1) := by decide +kernel
theorem d_Go_layCan_16 : decode b_Go_layCan 16 = .ok (.aload_n 0, 1) := by decide +kernel
theorem d_Go_layCan_17 : decode b_Go_layCan 17 = .ok (.getfield 35, 3) := by decide +kernel
theorem d_Go_layCan_20 : decode b_Go_layCan 20 = .ok (.iconst 0, 1) := by decide +kernel
theorem d_Go_layCan_21 : decode b_Go_layCan 21 = .ok (.aaload, 1) := by decide +kernel
theorem d_Go_layCan_22 : decode b_Go_layCan 22 = .ok (.iload_n 1, 1) := by decide +kernel
theorem d_Go_layCan_23 : decode b_Go_layCan 23 = .ok (.iload_n 2, 1) := by decide +kernel
theorem d_Go_layCan_24 : decode b_Go_layCan 24 = .ok (.ifCond .eq 16, 3) := by decide +kernel
theorem d_Go_layCan_27 : decode b_Go_layCan 27 = .ok (.aload_n 0, 1) := by decide +kernel
theorem d_Go_layCan_28 : decode b_Go_layCan 28 = .ok (.iload_n 1, 1) := by decide +kernel
theorem d_Go_layCan_29 : decode b_Go_layCan 29 = .ok (.iconst 0, 1) := by decide +kernel
theorem d_Go_layCan_30 : decode b_Go_layCan 30 = .ok (.invokevirtual 82, 3) := by decide +kernel
theorem d_Go_layCan_33 : decode b_Go_layCan 33 = .ok (.ifCond .ne 7, 3) := by decide +kernel
theorem d_Go_layCan_36 : decode b_Go_layCan 36 = .ok (.iconst 1, 1) := by decide +kernel
theorem d_Go_layCan_37 : decode b_Go_layCan 37 = .ok (.goto 4, 3) := by decide +kernel
theorem d_Go_layCan_40 : decode b_Go_layCan 40 = .ok (.iconst 0, 1) := by decide +kernel
theorem d_Go_layCan_41 : decode b_Go_layCan 41 = .ok (.iastore, 1) := by decide +kernel
theorem d_Go_layCan_42 : decode b_Go_layCan 42 = .ok (.aload_n 0, 1) := by decide +kernel
theorem d_Go_layCan_43 : decode b_Go_layCan 43 = .ok (.getfield 35, 3) := by decide +kernel
theorem d_Go_layCan_46 : decode b_Go_layCan 46 = .ok (.iconst 1, 1) := by decide +kernel
theorem d_Go_layCan_47 : decode b_Go_layCan 47 = .ok (.aaload, 1) := by decide +kernel
theorem d_Go_layCan_48 : decode b_Go_layCan 48 = .ok (.iload_n 1, 1) := by decide +kernel
theorem d_Go_layCan_49 : decode b_Go_layCan 49 = .ok (.iload_n 2, 1) := by decide +kernel
theorem d_Go_layCan_50 : decode b_Go_layCan 50 = .ok (.ifCond .eq 16, 3) := by decide +kernel
theorem d_Go_layCan_53 : decode b_Go_layCan 53 = .ok (.aload_n 0, 1) := by decide +kernel
theorem d_Go_layCan_54 : decode b_Go_layCan 54 = .ok (.iload_n 1, 1) := by decide +kernel
theorem d_Go_layCan_55 : decode b_Go_layCan 55 = .ok (.iconst 1, 1) := by decide +kernel
theorem d_Go_layCan_56 : decode b_Go_layCan 56 = .ok (.invokevirtual 82, 3) := by decide +kernel
theorem d_Go_layCan_59 : decode b_Go_layCan 59 = .ok (.ifCond .ne 7, 3) := by decide +kernel
theorem d_Go_layCan_62 : decode b_Go_layCan 62 = .ok (.iconst 1, 1) := by decide +kernel
theorem d_Go_layCan_63 : decode b_Go_layCan 63 = .ok (.goto 4, 3) := by decide +kernel
theorem d_Go_layCan_66 : decode b_Go_layCan 66 = .ok (.iconst 0, 1) := by decide +kernel
theorem d_Go_layCan_67 : decode b_Go_layCan 67 = .ok (.iastore, 1) := by decide +kernel
theorem d_Go_layCan_68 : decode b_Go_layCan 68 = .ok (.iinc 1 1, 3) := by decide +kernel
theorem d_Go_layCan_71 : decode b_Go_layCan 71 = .ok (.goto (-69), 3) := by decide +kernel
theorem d_Go_layCan_74 : decode b_Go_layCan 74 = .ok (.return_, 1) := by decide +kernel
def l_Go_layCan_2 (n : Nat) (E : PE)    : Nat → Int32 → (Nat → Nat → Int32) → (Nat → Nat → Int32) → (Nat → Nat → Option Nat) → (Nat → Nat) → Option ((Nat → Nat → Int32) × (Nat → Nat → Int32) × (Nat → Nat → Option Nat) × (Nat → Nat))
  | 0, _, _, _, _, _ => none
  | k + 1, v1, F, G, P, N => (if (F 3 2) < v1 then some (F, G, P, N) else (p_Go_isBorne n E F G P N v1).bind fun x2 => (if x2 = 0 then some (0, F, G, P, N) else (p_Go_isBarred n E v1 0 F G P N).bind fun (x10, F11, G12, P13, N14) => (if x10 = 0 then some (1, F11, G12, P13, N14) else some (0, F11, G12, P13, N14)) : Option (Int32 × (Nat → Nat → Int32) × (Nat → Nat → Int32) × (Nat → Nat → Option Nat) × (Nat → Nat))).bind fun (x4, F5, G6, P7, N8) => if ix v1 64 then (if x2 = 0 then some (0, F5, (upR G6 22 v1.toNatClampNeg x4), P7, N8) else (p_Go_isBarred n E v1 1 F5 (upR G6 22 v1.toNatClampNeg x4) P7 N8).bind fun (x23, F24, G25, P26, N27) => (if x23 = 0 then some (1, F24, G25, P26, N27) else some (0, F24, G25, P26, N27)) : Option (Int32 × (Nat → Nat → Int32) × (Nat → Nat → Int32) × (Nat → Nat → Option Nat) × (Nat → Nat))).bind fun (x17, F18, G19, P20, N21) => if ix v1 64 then l_Go_layCan_2 n E k (v1 + 1) F18 (upR G19 23 v1.toNatClampNeg x17) P20 N21 else none else none)
set_option maxHeartbeats 4000000 in
theorem wl_Go_layCan_2 {Q : State → Prop}  {p : Program} {l : Launch} {e : Env} {s : State} {m : MethodId} {args : Array Value} {below : List Frame} {meth : Method} {c : Code} {dC : Nat → ClassId} {dI : Nat → Nat → Nat} {ad : Nat → Nat} {cI cZ cW cJ : ClassId} {A : Nat → Prop} {adK adV : Nat → Nat} {E : PE} (C : cC p s m args c b_Go_layCan 3 "LanternBridge$Goings" dC dI cI cZ cW cJ A adK adV E) (hA : ∀ q, s.heap.size ≤ q → A q) (hr : meth.sig.returnType = none) (hlk : meth.locks = false) (n : Nat)    : ∀ (k : Nat) (v1 : Int32) (F : Nat → Nat → Int32) (G : Nat → Nat → Int32) (P : Nat → Nat → Option Nat) (N : Nat → Nat) (r0 : Nat → Nat → Int32) (r1 : Nat → Nat → Int32) (r2 : Nat → Nat → Option Nat) (r3 : Nat → Nat), l_Go_layCan_2 n E k v1 F G P N = some (r0, r1, r2, r3) → (∀ (ls : Array Slot), lv_has ls 3 [] → ∀ (H : Heap) (locs : List Loc), cH A s.heap dC dI ad cI cZ cW cJ r0 r1 r2 r3 H locs → W p l e (rL 8) s m args below meth c H locs 0 0 Q (F0 m 74 ls [])) → ∀ (ls : Array Slot), lv_has ls 3 [(0, .ref (ad 3)), (1, .int v1)] → ∀ (H : Heap) (locs : List Loc), cH A s.heap dC dI ad cI cZ cW cJ F G P N H locs → W p l e (rL 8) s m args below meth c H locs 0 0 Q (F0 m 2 ls []) := by
  obtain ⟨hx, hb, hml, hown, hT, hK, hTS, hTR, hpS, hi⟩ := id C
  intro k
  induction k with
  | zero => intro v1 F G P N r0 r1 r2 r3 hf; exact absurd hf (by unfold l_Go_layCan_2; exact fun h9 => by cases h9)
  | succ k ih =>
    intro v1 F G P N r0 r1 r2 r3 hf K ls hl H locs h
    unfold l_Go_layCan_2 at hf
    refine lv_iload_n hx hb d_Go_layCan_2 rfl (lv_at hl 1 rfl) ?_
    refine lv_aload_n hx hb d_Go_layCan_3 rfl (lv_at hl 0 rfl) ?_
    refine cg_3_2 hx hb hT hown hK h.1 fl_Go_50 d_Go_layCan_4 ?_
    refine lv_icmp_gt (tgt := 74) hx hb d_Go_layCan_7 (by decide) (fun hc => ?_) (fun hc => ?_)
    · have hf := op_t hc hf
      obtain ⟨rfl, rfl, rfl, rfl⟩ := op_i4 hf
      exact K ls (lv_sub hl [] rfl) H locs h
    · have hf := op_f hc hf
      refine lv_aload_n hx hb d_Go_layCan_10 rfl (lv_at hl 0 rfl) ?_
      refine lv_iload_n hx hb d_Go_layCan_11 rfl (lv_at hl 1 rfl) ?_
      obtain ⟨x2, hc1, hf⟩ := op_bind hf
      refine kr_i (C := R_Go) (b0 := ad 3) (rest := []) hx hb hml hown hT cB_bl (cB_to hK h.1 (cpS hpS h) hi) (va_recv hK h.1 (ci := 1) (q0 := 3) rfl rfl) (c_Go_isBorne l n E F G P N dC dI ad cI cZ cW cJ v1 _ hc1) (cbW 1 hT cd_Go_isBorne rfl rfl ini_Go ml_Go_78 hd_Go_isBorne ⟨Nat.le_of_ble_eq_true rfl, Nat.le_of_ble_eq_true rfl⟩) im_Go_isBorne sp_Go_isBorne rfl hl.1 rfl (Nat.le_of_ble_eq_true rfl) d_Go_layCan_12 ⟨Nat.zero_le _, Nat.zero_le _⟩ ?_
      refine lv_istore_n (lv' := [(2, .int x2), (0, .ref (ad 3)), (1, .int v1)]) hx hb d_Go_layCan_15 rfl hl (by decide) rfl (fun ls hl => ?_)
      refine lv_aload_n hx hb d_Go_layCan_16 rfl (lv_at hl 1 rfl) ?_
      refine cg_3_7 hx hb hT hown hK h.1 fl_Go_35 d_Go_layCan_17 ?_
      refine lv_iconst (v := 0) hx hb d_Go_layCan_20 (by decide) ?_
      refine co_21 hx hb hK h.1 (j := 0) (by decide) (show ix 0 2 by decide) d_Go_layCan_21 ?_
      refine lv_iload_n hx hb d_Go_layCan_22 rfl (lv_at hl 2 rfl) ?_
      refine lv_iload_n hx hb d_Go_layCan_23 rfl (lv_at hl 0 rfl) ?_
      obtain ⟨⟨x4, F5, G6, P7, N8⟩, he, hf⟩ := op_bind hf
      try dsimp only at hf
      have K3 : ∀ (ls : Array Slot), lv_has ls 3 [(0, .ref (ad 3)), (1, .int v1), (2, .int x2)] → ∀ (H : Heap) (locs : List Loc), cH A s.heap dC dI ad cI cZ cW cJ F5 G6 P7 N8 H locs → W p l e (rL 8) s m args below meth c H locs 0 0 Q (F0 m 41 ls [.int x4, .int v1, .ref (ad 22)]) := by
        intro ls hl H locs h
        obtain ⟨h15, hf⟩ := op_if hf
        refine cs_22 hx hb hK h rfl h15 d_Go_layCan_41 (fun H locs h => ?_)
        refine lv_aload_n hx hb d_Go_layCan_42 rfl (lv_at hl 0 rfl) ?_
        refine cg_3_7 hx hb hT hown hK h.1 fl_Go_35 d_Go_layCan_43 ?_
        refine lv_iconst (v := 1) hx hb d_Go_layCan_46 (by decide) ?_
        refine co_21 hx hb hK h.1 (j := 1) (by decide) (show ix 1 2 by decide) d_Go_layCan_47 ?_
        refine lv_iload_n hx hb d_Go_layCan_48 rfl (lv_at hl 1 rfl) ?_
        refine lv_iload_n hx hb d_Go_layCan_49 rfl (lv_at hl 2 rfl) ?_
        obtain ⟨⟨x17, F18, G19, P20, N21⟩, he, hf⟩ := op_bind hf
        try dsimp only at hf
        have K16 : ∀ (ls : Array Slot), lv_has ls 3 [(0, .ref (ad 3)), (1, .int v1)] → ∀ (H : Heap) (locs : List Loc), cH A s.heap dC dI ad cI cZ cW cJ F18 G19 P20 N21 H locs → W p l e (rL 8) s m args below meth c H locs 0 0 Q (F0 m 67 ls [.int x17, .int v1, .ref (ad 23)]) := by
          intro ls hl H locs h
          obtain ⟨h28, hf⟩ := op_if hf
          refine cs_23 hx hb hK h rfl h28 d_Go_layCan_67 (fun H locs h => ?_)
          refine lv_iinc (v := (v1 + 1)) (lv' := [(1, .int (v1 + 1)), (0, .ref (ad 3))]) hx hb d_Go_layCan_68 hl (k := 1) rfl rfl (by decide) rfl (fun ls hl => ?_)
          refine lv_goto (tgt := 2) hx hb d_Go_layCan_71 (by decide) ?_
          exact ih (v1 + 1) F18 (upR G19 23 v1.toNatClampNeg x17) P20 N21 _ _ _ _ hf K ls (lv_sub hl [1, 0] rfl) H locs h
        have hf := he
        refine lv_if_eq (tgt := 66) hx hb d_Go_layCan_50 (by decide) (fun hc => ?_) (fun hc => ?_)
        · have hf := op_t hc hf
          refine lv_iconst (v := 0) hx hb d_Go_layCan_66 (by decide) ?_
          obtain ⟨rfl, rfl, rfl, rfl, rfl⟩ := op_i5 hf
          exact K16 ls (lv_sub hl [0, 1] rfl) H locs h
        · have hf := op_f hc hf
          refine lv_aload_n hx hb d_Go_layCan_53 rfl (lv_at hl 0 rfl) ?_
          refine lv_iload_n hx hb d_Go_layCan_54 rfl (lv_at hl 1 rfl) ?_
          refine lv_iconst (v := 1) hx hb d_Go_layCan_55 (by decide) ?_
          obtain ⟨⟨x23, F24, G25, P26, N27⟩, hc22, hf⟩ := op_bind hf
          try dsimp only at hf
          refine kx_i (C0 := R_Go) (b0 := ad 3) (rest := [.int v1, .ref (ad 23)]) C h hA rfl (va_recv hK h.1 (ci := 1) (q0 := 3) rfl rfl) (c_Go_isBarred l n E v1 1 F5 (upR G6 22 v1.toNatClampNeg x4) P7 N8) hc22 (cbW 2 hT cd_Go_isBarred rfl rfl ini_Go ml_Go_82 hd_Go_isBarred ⟨Nat.le_of_ble_eq_true rfl, Nat.le_of_ble_eq_true rfl⟩) im_Go_isBarred sp_Go_isBarred rfl hl.1 rfl (Nat.le_of_ble_eq_true rfl) d_Go_layCan_56 ⟨Nat.zero_le _, Nat.zero_le _⟩ (fun H locs h => ?_)
          refine lv_if_ne (tgt := 66) hx hb d_Go_layCan_59 (by decide) (fun hc => ?_) (fun hc => ?_)
          · have hf := op_f hc hf
            refine lv_iconst (v := 0) hx hb d_Go_layCan_66 (by decide) ?_
            obtain ⟨rfl, rfl, rfl, rfl, rfl⟩ := op_i5 hf
            exact K16 ls (lv_sub hl [0, 1] rfl) H locs h
          · have hf := op_t hc hf
            refine lv_iconst (v := 1) hx hb d_Go_layCan_62 (by decide) ?_
            refine lv_goto (tgt := 67) hx hb d_Go_layCan_63 (by decide) ?_
            obtain ⟨rfl, rfl, rfl, rfl, rfl⟩ := op_i5 hf
            exact K16 ls (lv_sub hl [0, 1] rfl) H locs h
      have hf := he
      refine lv_if_eq (tgt := 40) hx hb d_Go_layCan_24 (by decide) (fun hc => ?_) (fun hc => ?_)
      · have hf := op_t hc hf
        refine lv_iconst (v := 0) hx hb d_Go_layCan_40 (by decide) ?_
        obtain ⟨rfl, rfl, rfl, rfl, rfl⟩ := op_i5 hf
        exact K3 ls (lv_sub hl [1, 2, 0] rfl) H locs h
      · have hf := op_f hc hf
        refine lv_aload_n hx hb d_Go_layCan_27 rfl (lv_at hl 1 rfl) ?_
        refine lv_iload_n hx hb d_Go_layCan_28 rfl (lv_at hl 2 rfl) ?_
        refine lv_iconst (v := 0) hx hb d_Go_layCan_29 (by decide) ?_
        obtain ⟨⟨x10, F11, G12, P13, N14⟩, hc9, hf⟩ := op_bind hf
        try dsimp only at hf
        refine kx_i (C0 := R_Go) (b0 := ad 3) (rest := [.int v1, .ref (ad 22)]) C h hA rfl (va_recv hK h.1 (ci := 1) (q0 := 3) rfl rfl) (c_Go_isBarred l n E v1 0 F G P N) hc9 (cbW 2 hT cd_Go_isBarred rfl rfl ini_Go ml_Go_82 hd_Go_isBarred ⟨Nat.le_of_ble_eq_true rfl, Nat.le_of_ble_eq_true rfl⟩) im_Go_isBarred sp_Go_isBarred rfl hl.1 rfl (Nat.le_of_ble_eq_true rfl) d_Go_layCan_30 ⟨Nat.zero_le _, Nat.zero_le _⟩ (fun H locs h => ?_)
        refine lv_if_ne (tgt := 40) hx hb d_Go_layCan_33 (by decide) (fun hc => ?_) (fun hc => ?_)
        · have hf := op_f hc hf
          refine lv_iconst (v := 0) hx hb d_Go_layCan_40 (by decide) ?_
          obtain ⟨rfl, rfl, rfl, rfl, rfl⟩ := op_i5 hf
          exact K3 ls (lv_sub hl [1, 2, 0] rfl) H locs h
        · have hf := op_t hc hf
          refine lv_iconst (v := 1) hx hb d_Go_layCan_36 (by decide) ?_
          refine lv_goto (tgt := 41) hx hb d_Go_layCan_37 (by decide) ?_
          obtain ⟨rfl, rfl, rfl, rfl, rfl⟩ := op_i5 hf
          exact K3 ls (lv_sub hl [1, 2, 0] rfl) H locs h
def p_Go_layCan (n : Nat) (E : PE)  (F : Nat → Nat → Int32) (G : Nat → Nat → Int32) (P : Nat → Nat → Option Nat) (N : Nat → Nat) : Option (CU) := (l_Go_layCan_2 n E n 1 F G P N).bind fun (F29, G30, P31, N32) => some (F29, G30, P31, N32)
set_option maxHeartbeats 4000000 in
theorem c_Go_layCan (l : Launch) (n : Nat) (E : PE)  (F : Nat → Nat → Int32) (G : Nat → Nat → Int32) (P : Nat → Nat → Option Nat) (N : Nat → Nat)  : CMv l y_Go_layCan b_Go_layCan 3 (rL 8) E (fun ad => [.ref (ad 3)]) F G P N (p_Go_layCan n E F G P N) := by
  refine en_cv (by decide) (fun _ => Nat.le_of_ble_eq_true rfl) ?_
  intro z hf p e s m args below meth c dC dI ad cI cZ cW cJ A adK adV ls C hA h hr hlk hl
  have hl : lv_has ls 3 [(0, .ref (ad 3))] := hl
  unfold p_Go_layCan at hf
  obtain ⟨hx, hb, hml, hown, hT, hK, hTS, hTR, hpS, hi⟩ := id C
  refine lv_iconst (v := 1) hx hb d_Go_layCan_0 (by decide) ?_
  refine lv_istore_n (lv' := [(1, .int 1), (0, .ref (ad 3))]) hx hb d_Go_layCan_1 rfl hl (by decide) rfl (fun ls hl => ?_)
  obtain ⟨⟨F29, G30, P31, N32⟩, he, hf⟩ := op_bind hf
  try dsimp only at hf
  refine wl_Go_layCan_2 C hA hr hlk n  n 1 F G P N _ _ _ _ he (fun ls hl H locs h => ?_) ls (lv_sub hl [1, 0] rfl) s.heap [] h
  exact rt_cv C h hr hlk hf d_Go_layCan_74
theorem hd_Go_putInstead : y_Go_putInstead.cls ≠ "java/lang/invoke/MethodHandle" ∧ y_Go_putInstead.cls ≠ "java/lang/invoke/VarHandle" ∧ (parseMethodDescriptor y_Go_putInstead.desc).map (fun d => d.parameters.length) = some 1 := by decide +kernel
theorem d_Go_putInstead_0 : decode b_Go_putInstead 0 = .ok (.aload_n 1, 1) := by decide +kernel
theorem d_Go_putInstead_1 : decode b_Go_putInstead 1 = .ok (.getfield 65, 3) := by decide +kernel
theorem d_Go_putInstead_4 : decode b_Go_putInstead 4 = .ok (.ifCond .lt 14, 3) := by decide +kernel
theorem d_Go_putInstead_7 : decode b_Go_putInstead 7 = .ok (.aload_n 1, 1) := by decide +kernel
theorem d_Go_putInstead_8 : decode b_Go_putInstead 8 = .ok (.getfield 65, 3) := by decide +kernel
theorem d_Go_putInstead_11 : decode b_Go_putInstead 11 = .ok (.aload_n 0, 1) := by decide +kernel
theorem d_Go_putInstead_12 : decode b_Go_putInstead 12 = .ok (.getfield 45, 3) := by decide +kernel
theorem d_Go_putInstead_15 : decode b_Go_putInstead 15 = .ok (.if_icmp .lt 4, 3) := by decide +kernel
theorem d_Go_putInstead_18 : decode b_Go_putInstead 18 = .ok (.return_, 1) := by decide +kernel
theorem d_Go_putInstead_19 : decode b_Go_putInstead 19 = .ok (.aload_n 0, 1) := by decide +kernel
theorem d_Go_putInstead_20 : decode b_Go_putInstead 20 = .ok (.getfield 11, 3) := by decide +kernel
theorem d_Go_putInstead_23 : decode b_Go_putInstead 23 = .ok (.aload_n 1, 1) := by decide +kernel
theorem d_Go_putInstead_24 : decode b_Go_putInstead 24 = .ok (.getfield 65, 3) := by decide +kernel
theorem d_Go_putInstead_27 : decode b_Go_putInstead 27 = .ok (.aload_n 1, 1) := by decide +kernel
theorem d_Go_putInstead_28 : decode b_Go_putInstead 28 = .ok (.aastore, 1) := by decide +kernel
theorem d_Go_putInstead_29 : decode b_Go_putInstead 29 = .ok (.aload_n 0, 1) := by decide +kernel
theorem d_Go_putInstead_30 : decode b_Go_putInstead 30 = .ok (.iconst 1, 1) := by decide +kernel
theorem d_Go_putInstead_31 : decode b_Go_putInstead 31 = .ok (.aload_n 1, 1) := by decide +kernel
theorem d_Go_putInstead_32 : decode b_Go_putInstead 32 = .ok (.getfield 65, 3) := by decide +kernel
theorem d_Go_putInstead_35 : decode b_Go_putInstead 35 = .ok (.ishl, 1) := by decide +kernel
theorem d_Go_putInstead_36 : decode b_Go_putInstead 36 = .ok (.invokevirtual 58, 3) := by decide +kernel
theorem d_Go_putInstead_39 : decode b_Go_putInstead 39 = .ok (.return_, 1) := by decide +kernel
def p_Go_putInstead (n : Nat) (E : PE) (v1 : Nat) (F : Nat → Nat → Int32) (G : Nat → Nat → Int32) (P : Nat → Nat → Option Nat) (N : Nat → Nat) : Option (CU) := if eV E v1 = true then (if (eD E v1 1) < 0 then some (F, G, P, N) else (if (eD E v1 1) < (F 3 1) then if ix (eD E v1 1) 6 then (p_Go_layMinutes n E (1 <<< ((eD E v1 1) &&& 31)) F G ((upP P 10 (eD E v1 1).toNatClampNeg (some v1))) N).bind fun (F5, G6, P7, N8) => some (F5, G6, P7, N8) else none else some (F, G, P, N))) else none
set_option maxHeartbeats 4000000 in
theorem c_Go_putInstead (l : Launch) (n : Nat) (E : PE) (v1 : Nat) (F : Nat → Nat → Int32) (G : Nat → Nat → Int32) (P : Nat → Nat → Option Nat) (N : Nat → Nat)  : CMv l y_Go_putInstead b_Go_putInstead 2 (rL 14) E (fun ad => [.ref (ad 3), .ref v1]) F G P N (p_Go_putInstead n E v1 F G P N) := by
  refine en_cv (by decide) (fun _ => Nat.le_of_ble_eq_true rfl) ?_
  intro z hf p e s m args below meth c dC dI ad cI cZ cW cJ A adK adV ls C hA h hr hlk hl
  have hl : lv_has ls 2 [(0, .ref (ad 3)), (1, .ref v1)] := hl
  unfold p_Go_putInstead at hf
  obtain ⟨hx, hb, hml, hown, hT, hK, hTS, hTR, hpS, hi⟩ := id C
  refine lv_aload_n hx hb d_Go_putInstead_0 rfl (lv_at hl 1 rfl) ?_
  obtain ⟨h1, hf⟩ := op_if hf
  refine wg_1 hx hb hT hown hK ((cpS hpS h).1 v1 h1).1 ((cpS hpS h).1 v1 h1).2.1 fl_Go_65 (fun _ h9 => h9) d_Go_putInstead_1 ?_
  refine lv_if_lt (tgt := 18) hx hb d_Go_putInstead_4 (by decide) (fun hc => ?_) (fun hc => ?_)
  · have hf := op_t hc hf
    exact rt_cv C h hr hlk hf d_Go_putInstead_18
  · have hf := op_f hc hf
    refine lv_aload_n hx hb d_Go_putInstead_7 rfl (lv_at hl 1 rfl) ?_
    refine wg_1 hx hb hT hown hK ((cpS hpS h).1 v1 h1).1 ((cpS hpS h).1 v1 h1).2.1 fl_Go_65 (fun _ h9 => h9) d_Go_putInstead_8 ?_
    refine lv_aload_n hx hb d_Go_putInstead_11 rfl (lv_at hl 0 rfl) ?_
    refine cg_3_1 hx hb hT hown hK h.1 fl_Go_45 d_Go_putInstead_12 ?_
    refine lv_icmp_lt (tgt := 19) hx hb d_Go_putInstead_15 (by decide) (fun hc => ?_) (fun hc => ?_)
    · have hf := op_t hc hf
      refine lv_aload_n hx hb d_Go_putInstead_19 rfl (lv_at hl 0 rfl) ?_
      refine cg_3_0 hx hb hT hown hK h.1 fl_Go_11 d_Go_putInstead_20 ?_
      refine lv_aload_n hx hb d_Go_putInstead_23 rfl (lv_at hl 1 rfl) ?_
      refine wg_1 hx hb hT hown hK ((cpS hpS h).1 v1 h1).1 ((cpS hpS h).1 v1 h1).2.1 fl_Go_65 (fun _ h9 => h9) d_Go_putInstead_24 ?_
      refine lv_aload_n hx hb d_Go_putInstead_27 rfl (lv_at hl 1 rfl) ?_
      obtain ⟨h2, hf⟩ := op_if hf
      refine cw_10 (q := (some v1)) hx hb hK h (fun v hv9 => by cases hv9; exact w_any hK hi ((cpS hpS h).1 v1 h1).1 ((cpS hpS h).1 v1 h1).2.1) rfl h2 d_Go_putInstead_28 (fun H locs h => ?_)
      refine lv_aload_n hx hb d_Go_putInstead_29 rfl (lv_at hl 0 rfl) ?_
      refine lv_iconst (v := 1) hx hb d_Go_putInstead_30 (by decide) ?_
      refine lv_aload_n hx hb d_Go_putInstead_31 rfl (lv_at hl 1 rfl) ?_
      refine wg_1 hx hb hT hown hK ((cpS hpS h).1 v1 h1).1 ((cpS hpS h).1 v1 h1).2.1 fl_Go_65 (fun _ h9 => h9) d_Go_putInstead_32 ?_
      refine lv_ishl hx hb d_Go_putInstead_35 ?_
      obtain ⟨⟨F5, G6, P7, N8⟩, hc3, hf⟩ := op_bind hf
      try dsimp only at hf
      refine kx_v (C0 := R_Go) (b0 := ad 3) (rest := []) C h hA rfl (va_recv hK h.1 (ci := 1) (q0 := 3) rfl rfl) (c_Go_layMinutes l n E (1 <<< ((eD E v1 1) &&& 31)) F G ((upP P 10 (eD E v1 1).toNatClampNeg (some v1))) N) hc3 (cbW 1 hT cd_Go_layMinutes rfl rfl ini_Go ml_Go_58 hd_Go_layMinutes ⟨Nat.le_of_ble_eq_true rfl, Nat.le_of_ble_eq_true rfl⟩) im_Go_layMinutes sp_Go_layMinutes rfl hl.1 rfl (Nat.le_of_ble_eq_true rfl) d_Go_putInstead_36 ⟨Nat.zero_le _, Nat.zero_le _⟩ (fun H locs h => ?_)
      exact rt_cv C h hr hlk hf d_Go_putInstead_39
    · have hf := op_f hc hf
      exact rt_cv C h hr hlk hf d_Go_putInstead_18
theorem hd_Go_layFor : y_Go_layFor.cls ≠ "java/lang/invoke/MethodHandle" ∧ y_Go_layFor.cls ≠ "java/lang/invoke/VarHandle" ∧ (parseMethodDescriptor y_Go_layFor.desc).map (fun d => d.parameters.length) = some 1 := by decide +kernel
theorem d_Go_layFor_0 : decode b_Go_layFor 0 = .ok (.aload_n 0, 1) := by decide +kernel
theorem d_Go_layFor_1 : decode b_Go_layFor 1 = .ok (.aload_n 1, 1) := by decide +kernel
theorem d_Go_layFor_2 : decode b_Go_layFor 2 = .ok (.getfield 38, 3) := by decide +kernel
theorem d_Go_layFor_5 : decode b_Go_layFor 5 = .ok (.putfield 22, 3) := by decide +kernel
theorem d_Go_layFor_8 : decode b_Go_layFor 8 = .ok (.aload_n 0, 1) := by decide +kernel
theorem d_Go_layFor_9 : decode b_Go_layFor 9 = .ok (.aload_n 1, 1) := by decide +kernel
theorem d_Go_layFor_10 : decode b_Go_layFor 10 = .ok (.getfield 41, 3) := by decide +kernel
theorem d_Go_layFor_13 : decode b_Go_layFor 13 = .ok (.putfield 45, 3) := by decide +kernel
theorem d_Go_layFor_16 : decode b_Go_layFor 16 = .ok (.aload_n 0, 1) := by decide +kernel
theorem d_Go_layFor_17 : decode b_Go_layFor 17 = .ok (.aload_n 1, 1) := by decide +kernel
theorem d_Go_layFor_18 : decode b_Go_layFor 18 = .ok (.invokevirtual 46, 3) := by decide +kernel
theorem d_Go_layFor_21 : decode b_Go_layFor 21 = .ok (.putfield 50, 3) := by decide +kernel
theorem d_Go_layFor_24 : decode b_Go_layFor 24 = .ok (.aload_n 0, 1) := by decide +kernel
theorem d_Go_layFor_25 : decode b_Go_layFor 25 = .ok (.iconst 0, 1) := by decide +kernel
theorem d_Go_layFor_26 : decode b_Go_layFor 26 = .ok (.putfield 52, 3) := by decide +kernel
theorem d_Go_layFor_29 : decode b_Go_layFor 29 = .ok (.iconst 0, 1) := by decide +kernel
theorem d_Go_layFor_30 : decode b_Go_layFor 30 = .ok (.istore_n 2, 1) := by decide +kernel
theorem d_Go_layFor_31 : decode b_Go_layFor 31 = .ok (.iload_n 2, 1) := by decide +kernel
theorem d_Go_layFor_32 : decode b_Go_layFor 32 = .ok (.bipush 6, 2) := by decide +kernel
theorem d_Go_layFor_34 : decode b_Go_layFor 34 = .ok (.if_icmp .ge 53, 3) := by decide +kernel
theorem d_Go_layFor_37 : decode b_Go_layFor 37 = .ok (.aload_n 0, 1) := by decide +kernel
theorem d_Go_layFor_38 : decode b_Go_layFor 38 = .ok (.getfield 11, 3) := by decide +kernel
theorem d_Go_layFor_41 : decode b_Go_layFor 41 = .ok (.iload_n 2, 1) := by decide +kernel
theorem d_Go_layFor_42 : decode b_Go_layFor 42 = .ok (.aload_n 1, 1) := by decide +kernel
theorem d_Go_layFor_43 : decode b_Go_layFor 43 = .ok (.getfield 55, 3) := by decide +kernel
theorem d_Go_layFor_46 : decode b_Go_layFor 46 = .ok (.iload_n 2, 1) := by decide +kernel
theorem d_Go_layFor_47 : decode b_Go_layFor 47 = .ok (.aaload, 1) := by decide +kernel
theorem d_Go_layFor_48 : decode b_Go_layFor 48 = .ok (.aastore, 1) := by decide +kernel
theorem d_Go_layFor_49 : decode b_Go_layFor 49 = .ok (.iload_n 2, 1) := by decide +kernel
theorem d_Go_layFor_50 : decode b_Go_layFor 50 = .ok (.aload_n 0, 1) := by decide +kernel
theorem d_Go_layFor_51 : decode b_Go_layFor 51 = .ok (.getfield 45, 3) := by decide +kernel
theorem d_Go_layFor_54 : decode b_Go_layFor 54 = .ok (.if_icmp .ge 27, 3) := by decide +kernel
theorem d_Go_layFor_57 : decode b_Go_layFor 57 = .ok (.aload_n 0, 1) := by decide +kernel
theorem d_Go_layFor_58 : decode b_Go_layFor 58 = .ok (.getfield 11, 3) := by decide +kernel
theorem d_Go_layFor_61 : decode b_Go_layFor 61 = .ok (.iload_n 2, 1) := by decide +kernel
theorem d_Go_layFor_62 : decode b_Go_layFor 62 = .ok (.aaload, 1) := by decide +kernel
theorem d_Go_layFor_63 : decode b_Go_layFor 63 = .ok (.instanceof 56, 3) := by decide +kernel
theorem d_Go_layFor_66 : decode b_Go_layFor 66 = .ok (.ifCond .eq 15, 3) := by decide +kernel
theorem d_Go_layFor_69 : decode b_Go_layFor 69 = .ok (.aload_n 0, 1) := by decide +kernel
theorem d_Go_layFor_70 : decode b_Go_layFor 70 = .ok (.dup, 1) := by decide +kernel
theorem d_Go_layFor_71 : decode b_Go_layFor 71 = .ok (.getfield 52, 3) := by decide +kernel
theorem d_Go_layFor_74 : decode b_Go_layFor 74 = .ok (.iconst 1, 1) := by decide +kernel
theorem d_Go_layFor_75 : decode b_Go_layFor 75 = .ok (.iload_n 2, 1) := by decide +kernel
theorem d_Go_layFor_76 : decode b_Go_layFor 76 = .ok (.ishl, 1) := by decide +kernel
theorem d_Go_layFor_77 : decode b_Go_layFor 77 = .ok (.ior, 1) := by decide +kernel
theorem d_Go_layFor_78 : decode b_Go_layFor 78 = .ok (.putfield 52, 3) := by decide +kernel
theorem d_Go_layFor_81 : decode b_Go_layFor 81 = .ok (.iinc 2 1, 3) := by decide +kernel
theorem d_Go_layFor_84 : decode b_Go_layFor 84 = .ok (.goto (-53), 3) := by decide +kernel
theorem d_Go_layFor_87 : decode b_Go_layFor 87 = .ok (.aload_n 0, 1) := by decide +kernel
theorem d_Go_layFor_88 : decode b_Go_layFor 88 = .ok (.aload_n 0, 1) := by decide +kernel
theorem d_Go_layFor_89 : decode b_Go_layFor 89 = .ok (.getfield 50, 3) := by decide +kernel
theorem d_Go_layFor_92 : decode b_Go_layFor 92 = .ok (.invokevirtual 58, 3) := by decide +kernel
theorem d_Go_layFor_95 : decode b_Go_layFor 95 = .ok (.aload_n 0, 1) := by decide +kernel
theorem d_Go_layFor_96 : decode b_Go_layFor 96 = .ok (.invokevirtual 62, 3) := by decide +kernel
theorem d_Go_layFor_99 : decode b_Go_layFor 99 = .ok (.return_, 1) := by decide +kernel
def l_Go_layFor_ad1_31 (n : Nat) (E : PE)    : Nat → Int32 → (Nat → Nat → Int32) → (Nat → Nat → Int32) → (Nat → Nat → Option Nat) → (Nat → Nat) → Option ((Nat → Nat → Int32) × (Nat → Nat → Int32) × (Nat → Nat → Option Nat) × (Nat → Nat))
  | 0, _, _, _, _, _ => none
  | k + 1, v2, F, G, P, N => (if 6 ≤ v2 then some (F, G, P, N) else if ix v2 6 then (some (P 8 v2.toNatClampNeg)).bind fun q4 => if ix v2 6 then if Option.all (eV E) q4 = true then (if (F 3 1) ≤ v2 then some (F, G, (upP P 10 v2.toNatClampNeg q4), N) else if ix v2 6 then (some ((upP P 10 v2.toNatClampNeg q4) 10 v2.toNatClampNeg)).bind fun q13 => (Option.elim q13 (none) (fun a14 => if eV E a14 = true then (if (if wUn (eC E a14) 3 = true then (1 : Int32) else 0) = 0 then some (F, G, (upP P 10 v2.toNatClampNeg q4), N) else some ((upR F 3 3 (((F 3 3) ||| (1 <<< (v2 &&& 31))))), G, (upP P 10 v2.toNatClampNeg q4), N)) else none)) else none : Option ((Nat → Nat → Int32) × (Nat → Nat → Int32) × (Nat → Nat → Option Nat) × (Nat → Nat))).bind fun (F8, G9, P10, N11) => l_Go_layFor_ad1_31 n E k (v2 + 1) F8 G9 P10 N11 else none else none else none)
set_option maxHeartbeats 4000000 in
theorem wl_Go_layFor_ad1_31 {Q : State → Prop}  {p : Program} {l : Launch} {e : Env} {s : State} {m : MethodId} {args : Array Value} {below : List Frame} {meth : Method} {c : Code} {dC : Nat → ClassId} {dI : Nat → Nat → Nat} {ad : Nat → Nat} {cI cZ cW cJ : ClassId} {A : Nat → Prop} {adK adV : Nat → Nat} {E : PE} (C : cC p s m args c b_Go_layFor 3 "LanternBridge$Goings" dC dI cI cZ cW cJ A adK adV E) (hA : ∀ q, s.heap.size ≤ q → A q) (hr : meth.sig.returnType = none) (hlk : meth.locks = false) (n : Nat)    : ∀ (k : Nat) (v2 : Int32) (F : Nat → Nat → Int32) (G : Nat → Nat → Int32) (P : Nat → Nat → Option Nat) (N : Nat → Nat) (r0 : Nat → Nat → Int32) (r1 : Nat → Nat → Int32) (r2 : Nat → Nat → Option Nat) (r3 : Nat → Nat), l_Go_layFor_ad1_31 n E k v2 F G P N = some (r0, r1, r2, r3) → (∀ (ls : Array Slot), lv_has ls 3 [(0, .ref (ad 3))] → ∀ (H : Heap) (locs : List Loc), cH A s.heap dC dI ad cI cZ cW cJ r0 r1 r2 r3 H locs → W p l e (rL 14) s m args below meth c H locs 0 0 Q (F0 m 87 ls [])) → ∀ (ls : Array Slot), lv_has ls 3 [(0, .ref (ad 3)), (1, .ref (ad 1)), (2, .int v2)] → ∀ (H : Heap) (locs : List Loc), cH A s.heap dC dI ad cI cZ cW cJ F G P N H locs → W p l e (rL 14) s m args below meth c H locs 0 0 Q (F0 m 31 ls []) := by
  obtain ⟨hx, hb, hml, hown, hT, hK, hTS, hTR, hpS, hi⟩ := id C
  intro k
  induction k with
  | zero => intro v2 F G P N r0 r1 r2 r3 hf; exact absurd hf (by unfold l_Go_layFor_ad1_31; exact fun h9 => by cases h9)
  | succ k ih =>
    intro v2 F G P N r0 r1 r2 r3 hf K ls hl H locs h
    unfold l_Go_layFor_ad1_31 at hf
    refine lv_iload_n hx hb d_Go_layFor_31 rfl (lv_at hl 2 rfl) ?_
    refine lv_bipush (v := 6) hx hb d_Go_layFor_32 (by decide) ?_
    refine lv_icmp_ge (tgt := 87) hx hb d_Go_layFor_34 (by decide) (fun hc => ?_) (fun hc => ?_)
    · have hf := op_t hc hf
      obtain ⟨rfl, rfl, rfl, rfl⟩ := op_i4 hf
      exact K ls (lv_sub hl [0] rfl) H locs h
    · have hf := op_f hc hf
      refine lv_aload_n hx hb d_Go_layFor_37 rfl (lv_at hl 0 rfl) ?_
      refine cg_3_0 hx hb hT hown hK h.1 fl_Go_11 d_Go_layFor_38 ?_
      refine lv_iload_n hx hb d_Go_layFor_41 rfl (lv_at hl 2 rfl) ?_
      refine lv_aload_n hx hb d_Go_layFor_42 rfl (lv_at hl 1 rfl) ?_
      refine cg_1_4 hx hb hT hown hK h.1 fl_Go_55 d_Go_layFor_43 ?_
      refine lv_iload_n hx hb d_Go_layFor_46 rfl (lv_at hl 2 rfl) ?_
      obtain ⟨h3, hf⟩ := op_if hf
      obtain ⟨q4, hq4, hf⟩ := op_bind hf
      refine cq_8 hx hb hK h.1 rfl h3 d_Go_layFor_47 ?_
      rw [op_i1 hq4]
      obtain ⟨h5, hf⟩ := op_if hf
      obtain ⟨h6, hf⟩ := op_if hf
      refine cw_10 (q := q4) hx hb hK h (fun v hv9 => by rw [hv9] at h6; exact w_any hK hi ((cpS hpS h).1 v h6).1 ((cpS hpS h).1 v h6).2.1) rfl h5 d_Go_layFor_48 (fun H locs h => ?_)
      refine lv_iload_n hx hb d_Go_layFor_49 rfl (lv_at hl 2 rfl) ?_
      refine lv_aload_n hx hb d_Go_layFor_50 rfl (lv_at hl 0 rfl) ?_
      refine cg_3_1 hx hb hT hown hK h.1 fl_Go_45 d_Go_layFor_51 ?_
      obtain ⟨⟨F8, G9, P10, N11⟩, he, hf⟩ := op_bind hf
      try dsimp only at hf
      have K7 : ∀ (ls : Array Slot), lv_has ls 3 [(0, .ref (ad 3)), (1, .ref (ad 1)), (2, .int v2)] → ∀ (H : Heap) (locs : List Loc), cH A s.heap dC dI ad cI cZ cW cJ F8 G9 P10 N11 H locs → W p l e (rL 14) s m args below meth c H locs 0 0 Q (F0 m 81 ls []) := by
        intro ls hl H locs h
        refine lv_iinc (v := (v2 + 1)) (lv' := [(2, .int (v2 + 1)), (0, .ref (ad 3)), (1, .ref (ad 1))]) hx hb d_Go_layFor_81 hl (k := 2) rfl rfl (by decide) rfl (fun ls hl => ?_)
        refine lv_goto (tgt := 31) hx hb d_Go_layFor_84 (by decide) ?_
        exact ih (v2 + 1) F8 G9 P10 N11 _ _ _ _ hf K ls (lv_sub hl [1, 2, 0] rfl) H locs h
      have hf := he
      refine lv_icmp_ge (tgt := 81) hx hb d_Go_layFor_54 (by decide) (fun hc => ?_) (fun hc => ?_)
      · have hf := op_t hc hf
        obtain ⟨rfl, rfl, rfl, rfl⟩ := op_i4 hf
        exact K7 ls (lv_sub hl [0, 1, 2] rfl) H locs h
      · have hf := op_f hc hf
        refine lv_aload_n hx hb d_Go_layFor_57 rfl (lv_at hl 0 rfl) ?_
        refine cg_3_0 hx hb hT hown hK h.1 fl_Go_11 d_Go_layFor_58 ?_
        refine lv_iload_n hx hb d_Go_layFor_61 rfl (lv_at hl 2 rfl) ?_
        obtain ⟨h12, hf⟩ := op_if hf
        obtain ⟨q13, hq13, hf⟩ := op_bind hf
        refine cq_10 hx hb hK h.1 rfl h12 d_Go_layFor_62 ?_
        rw [op_i1 hq13]
        cases q13 with
        | none =>
          have hf := op_en hf
          cases hf
        | some a14 =>
          have hf := op_es hf
          obtain ⟨h15, hf⟩ := op_if hf
          refine w_inst (t := 3) hx hb hT hown hK hi ((cpS hpS h).1 a14 h15).1 (by decide) ((cpS hpS h).1 a14 h15).2.1 kl_Go_56 d_Go_layFor_63 ?_
          refine lv_if_eq (tgt := 81) hx hb d_Go_layFor_66 (by decide) (fun hc => ?_) (fun hc => ?_)
          · have hf := op_t hc hf
            obtain ⟨rfl, rfl, rfl, rfl⟩ := op_i4 hf
            exact K7 ls (lv_sub hl [0, 1, 2] rfl) H locs h
          · have hf := op_f hc hf
            refine lv_aload_n hx hb d_Go_layFor_69 rfl (lv_at hl 0 rfl) ?_
            refine lv_dup hx hb d_Go_layFor_70 rfl ?_
            refine cg_3_3 hx hb hT hown hK h.1 fl_Go_52 d_Go_layFor_71 ?_
            refine lv_iconst (v := 1) hx hb d_Go_layFor_74 (by decide) ?_
            refine lv_iload_n hx hb d_Go_layFor_75 rfl (lv_at hl 2 rfl) ?_
            refine lv_ishl hx hb d_Go_layFor_76 ?_
            refine lv_ior hx hb d_Go_layFor_77 ?_
            refine cp_3_3 hx hb hT hown hK h fl_Go_52 d_Go_layFor_78 (fun H locs h => ?_)
            obtain ⟨rfl, rfl, rfl, rfl⟩ := op_i4 hf
            exact K7 ls (lv_sub hl [0, 1, 2] rfl) H locs h
def p_Go_layFor_ad1 (n : Nat) (E : PE)  (F : Nat → Nat → Int32) (G : Nat → Nat → Int32) (P : Nat → Nat → Option Nat) (N : Nat → Nat) : Option (CU) := (p_St_everybody n E (upR F 3 1 (F 1 5)) G P (upN N 3 (N 1)) ).bind fun x2 => (l_Go_layFor_ad1_31 n E n 0 (upR (upR (upR F 3 1 (F 1 5)) 3 2 x2) 3 3 0) G P (upN N 3 (N 1))).bind fun (F16, G17, P18, N19) => (p_Go_layMinutes n E (F16 3 2) F16 G17 P18 N19).bind fun (F22, G23, P24, N25) => (p_Go_layCan n E F22 G23 P24 N25).bind fun (F28, G29, P30, N31) => some (F28, G29, P30, N31)
set_option maxHeartbeats 4000000 in
theorem c_Go_layFor_ad1 (l : Launch) (n : Nat) (E : PE)  (F : Nat → Nat → Int32) (G : Nat → Nat → Int32) (P : Nat → Nat → Option Nat) (N : Nat → Nat)  : CMv l y_Go_layFor b_Go_layFor 3 (rL 14) E (fun ad => [.ref (ad 3), .ref (ad 1)]) F G P N (p_Go_layFor_ad1 n E F G P N) := by
  refine en_cv (by decide) (fun _ => Nat.le_of_ble_eq_true rfl) ?_
  intro z hf p e s m args below meth c dC dI ad cI cZ cW cJ A adK adV ls C hA h hr hlk hl
  have hl : lv_has ls 3 [(0, .ref (ad 3)), (1, .ref (ad 1))] := hl
  unfold p_Go_layFor_ad1 at hf
  obtain ⟨hx, hb, hml, hown, hT, hK, hTS, hTR, hpS, hi⟩ := id C
  refine lv_aload_n hx hb d_Go_layFor_0 rfl (lv_at hl 0 rfl) ?_
  refine lv_aload_n hx hb d_Go_layFor_1 rfl (lv_at hl 1 rfl) ?_
  refine cg_1_2 hx hb hT hown hK h.1 fl_Go_38 d_Go_layFor_2 ?_
  refine cp_3_4 hx hb hT hown hK h fl_Go_22 d_Go_layFor_5 (fun H locs h => ?_)
  refine lv_aload_n hx hb d_Go_layFor_8 rfl (lv_at hl 0 rfl) ?_
  refine lv_aload_n hx hb d_Go_layFor_9 rfl (lv_at hl 1 rfl) ?_
  refine cg_1_5 hx hb hT hown hK h.1 fl_Go_41 d_Go_layFor_10 ?_
  refine cp_3_1 hx hb hT hown hK h fl_Go_45 d_Go_layFor_13 (fun H locs h => ?_)
  refine lv_aload_n hx hb d_Go_layFor_16 rfl (lv_at hl 0 rfl) ?_
  refine lv_aload_n hx hb d_Go_layFor_17 rfl (lv_at hl 1 rfl) ?_
  obtain ⟨x2, hc1, hf⟩ := op_bind hf
  refine kr_i (C := R_St) (b0 := ad 1) (rest := [.ref (ad 3)]) hx hb hml hown hT cB_bl (cB_to hK h.1 (cpS hpS h) hi) (va_recv hK h.1 (ci := 7) (q0 := 1) rfl rfl) (c_St_everybody l n E (upR F 3 1 (F 1 5)) G P (upN N 3 (N 1)) dC dI ad cI cZ cW cJ  _ hc1) (cbW 0 hT cd_St_everybody rfl rfl ini_St ml_Go_46 hd_St_everybody ⟨Nat.le_of_ble_eq_true rfl, Nat.le_of_ble_eq_true rfl⟩) im_St_everybody se_St_St_everybody__St_everybody rfl hl.1 rfl (Nat.le_of_ble_eq_true rfl) d_Go_layFor_18 ⟨Nat.zero_le _, Nat.zero_le _⟩ ?_
  refine cp_3_2 hx hb hT hown hK h fl_Go_50 d_Go_layFor_21 (fun H locs h => ?_)
  refine lv_aload_n hx hb d_Go_layFor_24 rfl (lv_at hl 0 rfl) ?_
  refine lv_iconst (v := 0) hx hb d_Go_layFor_25 (by decide) ?_
  refine cp_3_3 hx hb hT hown hK h fl_Go_52 d_Go_layFor_26 (fun H locs h => ?_)
  refine lv_iconst (v := 0) hx hb d_Go_layFor_29 (by decide) ?_
  refine lv_istore_n (lv' := [(2, .int 0), (0, .ref (ad 3)), (1, .ref (ad 1))]) hx hb d_Go_layFor_30 rfl hl (by decide) rfl (fun ls hl => ?_)
  obtain ⟨⟨F16, G17, P18, N19⟩, he, hf⟩ := op_bind hf
  try dsimp only at hf
  refine wl_Go_layFor_ad1_31 C hA hr hlk n  n 0 (upR (upR (upR F 3 1 (F 1 5)) 3 2 x2) 3 3 0) G P (upN N 3 (N 1)) _ _ _ _ he (fun ls hl H locs h => ?_) ls (lv_sub hl [1, 2, 0] rfl) H locs h
  refine lv_aload_n hx hb d_Go_layFor_87 rfl (lv_at hl 0 rfl) ?_
  refine lv_aload_n hx hb d_Go_layFor_88 rfl (lv_at hl 0 rfl) ?_
  refine cg_3_2 hx hb hT hown hK h.1 fl_Go_50 d_Go_layFor_89 ?_
  obtain ⟨⟨F22, G23, P24, N25⟩, hc20, hf⟩ := op_bind hf
  try dsimp only at hf
  refine kx_v (C0 := R_Go) (b0 := ad 3) (rest := []) C h hA rfl (va_recv hK h.1 (ci := 1) (q0 := 3) rfl rfl) (c_Go_layMinutes l n E (F16 3 2) F16 G17 P18 N19) hc20 (cbW 1 hT cd_Go_layMinutes rfl rfl ini_Go ml_Go_58 hd_Go_layMinutes ⟨Nat.le_of_ble_eq_true rfl, Nat.le_of_ble_eq_true rfl⟩) im_Go_layMinutes sp_Go_layMinutes rfl hl.1 rfl (Nat.le_of_ble_eq_true rfl) d_Go_layFor_92 ⟨Nat.zero_le _, Nat.zero_le _⟩ (fun H locs h => ?_)
  refine lv_aload_n hx hb d_Go_layFor_95 rfl (lv_at hl 0 rfl) ?_
  obtain ⟨⟨F28, G29, P30, N31⟩, hc26, hf⟩ := op_bind hf
  try dsimp only at hf
  refine kx_v (C0 := R_Go) (b0 := ad 3) (rest := []) C h hA rfl (va_recv hK h.1 (ci := 1) (q0 := 3) rfl rfl) (c_Go_layCan l n E  F22 G23 P24 N25) hc26 (cbW 0 hT cd_Go_layCan rfl rfl ini_Go ml_Go_62 hd_Go_layCan ⟨Nat.le_of_ble_eq_true rfl, Nat.le_of_ble_eq_true rfl⟩) im_Go_layCan sp_Go_layCan rfl hl.1 rfl (Nat.le_of_ble_eq_true rfl) d_Go_layFor_96 ⟨Nat.zero_le _, Nat.zero_le _⟩ (fun H locs h => ?_)
  exact rt_cv C h hr hlk hf d_Go_layFor_99
