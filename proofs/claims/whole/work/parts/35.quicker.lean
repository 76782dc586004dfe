theorem hd_LB_quicker : y_LB_quicker.cls ≠ "java/lang/invoke/MethodHandle" ∧ y_LB_quicker.cls ≠ "java/lang/invoke/VarHandle" ∧ (parseMethodDescriptor y_LB_quicker.desc).map (fun d => d.parameters.length) = some 1 := by decide +kernel
theorem d_LB_quicker_0 : decode b_LB_quicker 0 = .ok (.aload_n 0, 1) := by decide +kernel
theorem d_LB_quicker_1 : decode b_LB_quicker 1 = .ok (.getfield 12, 3) := by decide +kernel
theorem d_LB_quicker_4 : decode b_LB_quicker 4 = .ok (.iload_n 1, 1) := by decide +kernel
theorem d_LB_quicker_5 : decode b_LB_quicker 5 = .ok (.invokevirtual 81, 3) := by decide +kernel
theorem d_LB_quicker_8 : decode b_LB_quicker 8 = .ok (.astore_n 2, 1) := by decide +kernel
theorem d_LB_quicker_9 : decode b_LB_quicker 9 = .ok (.aload_n 2, 1) := by decide +kernel
theorem d_LB_quicker_10 : decode b_LB_quicker 10 = .ok (.ifnonnull 5, 3) := by decide +kernel
theorem d_LB_quicker_13 : decode b_LB_quicker 13 = .ok (.iconst (-1), 1) := by decide +kernel
theorem d_LB_quicker_14 : decode b_LB_quicker 14 = .ok (.ireturn, 1) := by decide +kernel
theorem d_LB_quicker_15 : decode b_LB_quicker 15 = .ok (.aload_n 2, 1) := by decide +kernel
theorem d_LB_quicker_16 : decode b_LB_quicker 16 = .ok (.getfield 91, 3) := by decide +kernel
theorem d_LB_quicker_19 : decode b_LB_quicker 19 = .ok (.iconst 1, 1) := by decide +kernel
theorem d_LB_quicker_20 : decode b_LB_quicker 20 = .ok (.if_icmp .ne 5, 3) := by decide +kernel
theorem d_LB_quicker_23 : decode b_LB_quicker 23 = .ok (.iconst 0, 1) := by decide +kernel
theorem d_LB_quicker_24 : decode b_LB_quicker 24 = .ok (.ireturn, 1) := by decide +kernel
theorem d_LB_quicker_25 : decode b_LB_quicker 25 = .ok (.aload_n 0, 1) := by decide +kernel
theorem d_LB_quicker_26 : decode b_LB_quicker 26 = .ok (.invokevirtual 125, 3) := by decide +kernel
theorem d_LB_quicker_29 : decode b_LB_quicker 29 = .ok (.aload_n 0, 1) := by decide +kernel
theorem d_LB_quicker_30 : decode b_LB_quicker 30 = .ok (.aload_n 0, 1) := by decide +kernel
theorem d_LB_quicker_31 : decode b_LB_quicker 31 = .ok (.getfield 12, 3) := by decide +kernel
theorem d_LB_quicker_34 : decode b_LB_quicker 34 = .ok (.invokevirtual 168, 3) := by decide +kernel
theorem d_LB_quicker_37 : decode b_LB_quicker 37 = .ok (.iconst 0, 1) := by decide +kernel
theorem d_LB_quicker_38 : decode b_LB_quicker 38 = .ok (.invokevirtual 139, 3) := by decide +kernel
theorem d_LB_quicker_41 : decode b_LB_quicker 41 = .ok (.istore_n 3, 1) := by decide +kernel
theorem d_LB_quicker_42 : decode b_LB_quicker 42 = .ok (.iload_n 3, 1) := by decide +kernel
theorem d_LB_quicker_43 : decode b_LB_quicker 43 = .ok (.bipush (-5), 2) := by decide +kernel
theorem d_LB_quicker_45 : decode b_LB_quicker 45 = .ok (.if_icmp .ne 6, 3) := by decide +kernel
theorem d_LB_quicker_48 : decode b_LB_quicker 48 = .ok (.bipush (-5), 2) := by decide +kernel
theorem d_LB_quicker_50 : decode b_LB_quicker 50 = .ok (.ireturn, 1) := by decide +kernel
theorem d_LB_quicker_51 : decode b_LB_quicker 51 = .ok (.aload_n 0, 1) := by decide +kernel
theorem d_LB_quicker_52 : decode b_LB_quicker 52 = .ok (.getfield 28, 3) := by decide +kernel
theorem d_LB_quicker_55 : decode b_LB_quicker 55 = .ok (.aload_n 2, 1) := by decide +kernel
theorem d_LB_quicker_56 : decode b_LB_quicker 56 = .ok (.getfield 85, 3) := by decide +kernel
theorem d_LB_quicker_59 : decode b_LB_quicker 59 = .ok (.aload_n 2, 1) := by decide +kernel
theorem d_LB_quicker_60 : decode b_LB_quicker 60 = .ok (.getfield 100, 3) := by decide +kernel
theorem d_LB_quicker_63 : decode b_LB_quicker 63 = .ok (.aload_n 2, 1) := by decide +kernel
theorem d_LB_quicker_64 : decode b_LB_quicker 64 = .ok (.getfield 88, 3) := by decide +kernel
theorem d_LB_quicker_67 : decode b_LB_quicker 67 = .ok (.aload_n 2, 1) := by decide +kernel
theorem d_LB_quicker_68 : decode b_LB_quicker 68 = .ok (.getfield 91, 3) := by decide +kernel
theorem d_LB_quicker_71 : decode b_LB_quicker 71 = .ok (.iconst 1, 1) := by decide +kernel
theorem d_LB_quicker_72 : decode b_LB_quicker 72 = .ok (.isub, 1) := by decide +kernel
theorem d_LB_quicker_73 : decode b_LB_quicker 73 = .ok (.aload_n 2, 1) := by decide +kernel
theorem d_LB_quicker_74 : decode b_LB_quicker 74 = .ok (.getfield 94, 3) := by decide +kernel
theorem d_LB_quicker_77 : decode b_LB_quicker 77 = .ok (.invokestatic 75, 3) := by decide +kernel
theorem d_LB_quicker_80 : decode b_LB_quicker 80 = .ok (.invokevirtual 171, 3) := by decide +kernel
theorem d_LB_quicker_83 : decode b_LB_quicker 83 = .ok (.aload_n 0, 1) := by decide +kernel
theorem d_LB_quicker_84 : decode b_LB_quicker 84 = .ok (.aload_n 0, 1) := by decide +kernel
theorem d_LB_quicker_85 : decode b_LB_quicker 85 = .ok (.getfield 12, 3) := by decide +kernel
theorem d_LB_quicker_88 : decode b_LB_quicker 88 = .ok (.invokevirtual 168, 3) := by decide +kernel
theorem d_LB_quicker_91 : decode b_LB_quicker 91 = .ok (.iconst 0, 1) := by decide +kernel
theorem d_LB_quicker_92 : decode b_LB_quicker 92 = .ok (.invokevirtual 139, 3) := by decide +kernel
theorem d_LB_quicker_95 : decode b_LB_quicker 95 = .ok (.istore 4, 2) := by decide +kernel
theorem d_LB_quicker_97 : decode b_LB_quicker 97 = .ok (.aload_n 0, 1) := by decide +kernel
theorem d_LB_quicker_98 : decode b_LB_quicker 98 = .ok (.getfield 28, 3) := by decide +kernel
theorem d_LB_quicker_101 : decode b_LB_quicker 101 = .ok (.aload_n 2, 1) := by decide +kernel
theorem d_LB_quicker_102 : decode b_LB_quicker 102 = .ok (.invokevirtual 171, 3) := by decide +kernel
theorem d_LB_quicker_105 : decode b_LB_quicker 105 = .ok (.iload_n 3, 1) := by decide +kernel
theorem d_LB_quicker_106 : decode b_LB_quicker 106 = .ok (.iload 4, 2) := by decide +kernel
theorem d_LB_quicker_108 : decode b_LB_quicker 108 = .ok (.isub, 1) := by decide +kernel
theorem d_LB_quicker_109 : decode b_LB_quicker 109 = .ok (.ireturn, 1) := by decide +kernel
def p_LB_quicker (n : Nat) (E : PE) (v1 : Int32) (F G : Nat → Nat → Int32) (P : Nat → Nat → Option Nat) (N : Nat → Nat) : Option ((Int32 × CU) ⊕ (Nat × Int32 × CU)) := (p_St_walker n E F G P N v1).bind fun x2 => (Option.elim x2 (some (Sum.inl ((-1), F, G, P, N))) (fun a3 => if eV E a3 = true then (if (eD E a3 3) = 1 then some (Sum.inl (0, F, G, P, N)) else (p_LB_refresh n E F G P N).bind fun (F7, G8, P9, N10) => (p_St_everybody n E F7 G8 P9 N10 ).bind fun x12 => (p_LB_leastFor n E x12 0 F7 G8 P9 N10).bind fun (x14, F15, G16, P17, N18) => (if x14 = (-5) then some (Sum.inl ((-5), F15, G16, P17, N18)) else some (Sum.inr (a3, x14, F15, G16, P17, N18)))) else none))
def qE (E : PE) (a q : Nat) : PE := addW E q (clsOf (eD E a 0)) (wv (eD E a 0) (eD E a 1) (eD E a 2) (eD E a 3 - 1) (eD E a 4))
def p_quick2 (n : Nat) (E : PE) (a : Nat) (b : Int32) (q : Nat) (F G : Nat → Nat → Int32) (P : Nat → Nat → Option Nat) (N : Nat → Nat) : Option (Int32 × CU) := (p_Go_putInstead n (qE E a q) q F G P N).bind fun (F1, G1, P1, N1) => (p_St_everybody n (qE E a q) F1 G1 P1 N1).bind fun x => (p_LB_leastFor n (qE E a q) x 0 F1 G1 P1 N1).bind fun (y, F2, G2, P2, N2) => (p_Go_putInstead n (qE E a q) a F2 G2 P2 N2).bind fun (F3, G3, P3, N3) => some (b - y, F3, G3, P3, N3)
def post_quicker (n : Nat) (E : PE) (z : (Int32 × CU) ⊕ (Nat × Int32 × CU)) (r : Int32) (u : CU) (E' : PE) : Prop := match z with
  | .inl (x, w) => r = x ∧ u = w ∧ E' = E
  | .inr (a, b, F, G, P, N) => ∃ q : Nat, eV E q = false ∧ p_quick2 n E a b q F G P N = some (r, u) ∧ E' = qE E a q
set_option maxHeartbeats 4000000 in
theorem t_quicker {p : Program} {l : Launch} {e : Env} {s : State} {m : MethodId} {args : Array Value} {below : List Frame} {meth : Method} {c : Code} {H : Heap} {locs : List Loc} {dC : Nat → ClassId} {dI : Nat → Nat → Nat} {ad : Nat → Nat} {cI cZ cW cJ : ClassId} {F G : Nat → Nat → Int32} {P : Nat → Nat → Option Nat} {N : Nat → Nat} {A : Nat → Prop} {adK adV : Nat → Nat} {E : PE} {a : Nat} {b : Int32} (n : Nat) (C : cC p s m args c b_LB_quicker 5 "LanternBridge" dC dI cI cZ cW cJ A adK adV E) (h : cH A s.heap dC dI ad cI cZ cW cJ F G P N H locs) (hA : ∀ q, s.heap.size ≤ q → A q) (hr : meth.sig.returnType = some .int) (hlk : meth.locks = false) (hV : eV E a = true) (hq : ∀ q, eV E q = false → ∃ w, p_quick2 n E a b q F G P N = some w) (ls : Array Slot) (hl : lv_has ls 5 [(0, .ref (ad 0)), (2, .ref a), (3, .int b)]) : W p l e (rmA 40 1 5) s m args below meth c H locs 0 0 (aQi dC dI ad cI cZ cW cJ A E below args s 1 5 (post_quicker n E (.inr (a, b, F, G, P, N)))) (F0 m 77 ls [.int (eD E a 4), .int ((eD E a 3) - 1), .int (eD E a 2), .int (eD E a 1), .int (eD E a 0), .ref (ad 3)]) := by
  obtain ⟨hx, hb, hml, hown, hT, hK, hTS, hTR, hpS, hi⟩ := id C
  refine va_callr (va_runS (As := [.int (eD E a 0), .int (eD E a 1), .int (eD E a 2), .int (eD E a 3 - 1), .int (eD E a 4)]) (rest := [.ref (ad 3)]) ⟨hx, hb, hml, hown, hT⟩ (c_Wa_make l dC dI H.size (eD E a 0) (eD E a 1) (eD E a 2) (eD E a 3 - 1) (eD E a 4)) ⟨callB_of 5 hT (goodW cd_Wa_make) rfl rfl rfl (hT _ ini_Wa) (hT _ ml_LB_75) hd_Wa_make ⟨Nat.le_of_ble_eq_true rfl, Nat.le_of_ble_eq_true rfl⟩, hT _ sm_Wa_make⟩ ⟨fun a U g mk q => ⟨q.1, q.2.1, va_K.moved (u := U) (U := U.calling g mk a) (Vm.Alike.refl U.vm) q.2.2⟩, fun U hU hW => ⟨rfl, by rw [hU], va_K.moved hW.alike (hK.sub [] rfl)⟩⟩ rfl rfl hl.1 rfl (lv_room (Nat.le_of_ble_eq_true rfl)) d_LB_quicker_77 ⟨Nat.le_of_ble_eq_true rfl, Nat.le_of_ble_eq_true rfl⟩) h.2.2 (fun q h1 h2 => absurd h2 (Nat.not_le.mpr h1)) (fun q h2 => hA q (Nat.le_trans h.2.2.1 h2)) (fun u q t H1 locs1 ht hvm hw hB hz1 hk1 hS => ?_)
  have hqa := hB.1
  rw [ht] at hqa
  have hge : s.heap.size ≤ q := Nat.le_trans h.2.2.1 hB.2.2
  have hnv : eV E q = false := by
    cases hv : eV E q with
    | false => rfl
    | true =>
      have h1 := (((cpS hpS h).1 q hv).2.1).lt
      have h2 := hB.2.2
      simp only at h1
      omega
  obtain ⟨⟨r, F3, G3, P3, N3⟩, hw2⟩ := hq q hnv
  have hw2' := hw2
  unfold p_quick2 at hw2
  obtain ⟨⟨F1, G1, P1, N1⟩, hc1, hw2⟩ := op_bind hw2
  obtain ⟨x, hc2, hw2⟩ := op_bind hw2
  obtain ⟨⟨y, F2, G2, P2, N2⟩, hc3, hw2⟩ := op_bind hw2
  obtain ⟨⟨F4, G4, P4, N4⟩, hc4, hw2⟩ := op_bind hw2
  obtain ⟨rfl, rfl, rfl, rfl, rfl⟩ := op_i5 hw2
  have hPc : va_P (dC, dI) CL (cX ad cI cZ cW cJ F G P N) H1 := fun k r hk => (h.1 k r hk).kept (hk1 r.1 (h.1 k r hk).lt (Nat.not_le.mpr (h.1 k r hk).lt))
  have h : cHY A s.heap dC dI ad cI cZ cW cJ F G P N (yX (clsOf (eD E a 0)) q (wv (eD E a 0) (eD E a 1) (eD E a 2) (eD E a 3 - 1) (eD E a 4))) H1 locs1 := ⟨va_P.app hPc hqa, va_D.app h.2.1 ⟨fun i j a b hi hj _ => by
      rcases i with _ | i
      · rcases j with _ | j
        · rfl
        · simp [yX] at hj
      · simp [yX] at hi, fun k r hk => by
      rcases k with _ | k
      · cases hk; exact hA q (Nat.le_trans h.2.2.1 hB.2.2)
      · simp [yX] at hk⟩ (fun i j a b hi hj e9 => by
      have h1 := (h.1 i a hi).lt
      rcases j with _ | j
      · cases hj
        have h2 := hB.2.2
        simp only at e9
        omega
      · simp [yX] at hj), hS⟩
  have hp : pS dC dI cI (qE E a q) (fixA ad cI cZ cW cJ F G P N) H1 := pS_addW (pS_old C h) (clsOf_mem _) (ap_r h.1 0 _ rfl) (ap_ne h.2.1 (k := 0) rfl)
  clear hPc hqa hS
  generalize H1 = H at h hp ⊢
  generalize locs1 = locs at h ⊢
  refine kz_v (C0 := R_Go) (b0 := ad 3) (As1 := [.ref q]) (rest := []) C h hA hp rfl (va_recv hK (ap_l h.1) (ci := 1) (q0 := 3) rfl rfl) (c_Go_putInstead l n (qE E a q) q F G P N) hc1 (cbW 1 hT cd_Go_putInstead rfl rfl ini_Go ml_LB_171 hd_Go_putInstead ⟨Nat.le_of_ble_eq_true rfl, Nat.le_of_ble_eq_true rfl⟩) im_Go_putInstead se_Go_Go_putInstead__Go_putInstead rfl hl.1 rfl (Nat.le_of_ble_eq_true rfl) d_LB_quicker_80 ⟨Nat.le_of_ble_eq_true rfl, Nat.le_of_ble_eq_true rfl⟩ (fun H locs h hp => ?_)
  refine lv_aload_n hx hb d_LB_quicker_83 rfl (lv_at hl 0 rfl) ?_
  refine lv_aload_n hx hb d_LB_quicker_84 rfl (lv_at hl 0 rfl) ?_
  refine cg_0_0 hx hb hT hown hK (ap_l h.1) fl_LB_12 d_LB_quicker_85 ?_
  refine kr_i (C := R_St) (b0 := ad 1) (rest := [.ref (ad 0)]) hx hb hml hown hT cB_bl (cB_to hK (ap_l h.1) (hp.narrow (fun _ q => q.elim)) hi) (va_recv hK (ap_l h.1) (ci := 7) (q0 := 1) rfl rfl) (c_St_everybody l n (qE E a q) F1 G1 P1 N1 dC dI ad cI cZ cW cJ _ hc2) (cbW 0 hT cd_St_everybody rfl rfl ini_St ml_LB_168 hd_St_everybody ⟨Nat.le_of_ble_eq_true rfl, Nat.le_of_ble_eq_true rfl⟩) im_St_everybody se_St_St_everybody__St_everybody rfl hl.1 rfl (Nat.le_of_ble_eq_true rfl) d_LB_quicker_88 ⟨Nat.le_of_ble_eq_true rfl, Nat.le_of_ble_eq_true rfl⟩ ?_
  refine lv_iconst (v := 0) hx hb d_LB_quicker_91 (by decide) ?_
  refine kz_i (C0 := R_LB) (b0 := ad 0) (As1 := [.int x, .int 0]) (rest := []) C h hA hp rfl (va_recv hK (ap_l h.1) (ci := 11) (q0 := 0) rfl rfl) (c_LB_leastFor l n (qE E a q) x 0 F1 G1 P1 N1) hc3 (cbW 2 hT cd_LB_leastFor rfl rfl ini_LB ml_LB_139 hd_LB_leastFor ⟨Nat.le_of_ble_eq_true rfl, Nat.le_of_ble_eq_true rfl⟩) im_LB_leastFor sp_LB_leastFor rfl hl.1 rfl (Nat.le_of_ble_eq_true rfl) d_LB_quicker_92 ⟨Nat.le_of_ble_eq_true rfl, Nat.le_of_ble_eq_true rfl⟩ (fun H locs h hp => ?_)
  refine lv_istore (lv' := [(4, .int y), (0, .ref (ad 0)), (2, .ref a), (3, .int b)]) hx hb d_LB_quicker_95 hl (by decide) rfl (fun ls hl => ?_)
  refine lv_aload_n hx hb d_LB_quicker_97 rfl (lv_at hl 1 rfl) ?_
  refine cg_0_4 hx hb hT hown hK (ap_l h.1) fl_LB_28 d_LB_quicker_98 ?_
  refine lv_aload_n hx hb d_LB_quicker_101 rfl (lv_at hl 2 rfl) ?_
  refine kz_v (C0 := R_Go) (b0 := ad 3) (As1 := [.ref a]) (rest := []) C h hA hp rfl (va_recv hK (ap_l h.1) (ci := 1) (q0 := 3) rfl rfl) (c_Go_putInstead l n (qE E a q) a F2 G2 P2 N2) hc4 (cbW 1 hT cd_Go_putInstead rfl rfl ini_Go ml_LB_171 hd_Go_putInstead ⟨Nat.le_of_ble_eq_true rfl, Nat.le_of_ble_eq_true rfl⟩) im_Go_putInstead se_Go_Go_putInstead__Go_putInstead rfl hl.1 rfl (Nat.le_of_ble_eq_true rfl) d_LB_quicker_102 ⟨Nat.le_of_ble_eq_true rfl, Nat.le_of_ble_eq_true rfl⟩ (fun H locs h hp => ?_)
  refine lv_iload_n hx hb d_LB_quicker_105 rfl (lv_at hl 3 rfl) ?_
  refine lv_iload hx hb d_LB_quicker_106 (lv_at hl 0 rfl) ?_
  refine lv_isub hx hb d_LB_quicker_108 ?_
  exact rt_cy C h hr hlk ⟨q, hnv, hw2', rfl⟩ hp (pF_addW hge) rfl d_LB_quicker_109
set_option maxHeartbeats 4000000 in
theorem c_LB_quicker (l : Launch) (n : Nat) (E : PE) (v1 : Int32) (F G : Nat → Nat → Int32) (P : Nat → Nat → Option Nat) (N : Nat → Nat) (z : (Int32 × CU) ⊕ (Nat × Int32 × CU)) (hf : p_LB_quicker n E v1 F G P N = some z) (hq : ∀ w, z = Sum.inr w → ∀ q, eV E q = false → ∃ w2, p_quick2 n E w.1 w.2.1 q w.2.2.1 w.2.2.2.1 w.2.2.2.2.1 w.2.2.2.2.2 = some w2) : CAi l y_LB_quicker b_LB_quicker 5 .int (rmA 40 1 5) 1 5 E (fun ad => [.ref (ad 0), .int v1]) F G P N (post_quicker n E z) := by
  refine en_ca (by decide) (fun _ => Nat.le_of_ble_eq_true rfl) ?_
  intro p e s m args below meth c dC dI ad cI cZ cW cJ A adK adV ls C hA hAi hfx h hr hlk hl
  have hl : lv_has ls 5 [(0, .ref (ad 0)), (1, .int v1)] := hl
  unfold p_LB_quicker at hf
  obtain ⟨hx, hb, hml, hown, hT, hK, hTS, hTR, hpS, hi⟩ := id C
  refine lv_aload_n hx hb d_LB_quicker_0 rfl (lv_at hl 0 rfl) ?_
  refine cg_0_0 hx hb hT hown hK h.1 fl_LB_12 d_LB_quicker_1 ?_
  refine lv_iload_n hx hb d_LB_quicker_4 rfl (lv_at hl 1 rfl) ?_
  obtain ⟨x2, hc1, hf⟩ := op_bind hf
  refine kr_q (C := R_St) (b0 := ad 1) (rest := []) hx hb hml hown hT cB_bl (cB_to hK h.1 (cpS hpS h) hi) (va_recv hK h.1 (ci := 7) (q0 := 1) rfl rfl) (c_St_walker l n E F G P N dC dI ad cI cZ cW cJ v1 _ hc1) (cbW 1 hT cd_St_walker rfl rfl ini_St ml_LB_81 hd_St_walker ⟨Nat.le_of_ble_eq_true rfl, Nat.le_of_ble_eq_true rfl⟩) im_St_walker se_St_St_walker__St_walker rfl hl.1 rfl (Nat.le_of_ble_eq_true rfl) d_LB_quicker_5 ⟨Nat.zero_le _, Nat.zero_le _⟩ ?_
  cases x2 with
  | none =>
    have hf := op_en hf
    refine lv_astore_nN (lv' := [(2, .null), (0, .ref (ad 0)), (1, .int v1)]) hx hb d_LB_quicker_8 rfl hl (by decide) rfl (fun ls hl => ?_)
    refine lv_aload_nN hx hb d_LB_quicker_9 rfl (lv_at hl 0 rfl) ?_
    refine lv_ifnonnullN hx hb d_LB_quicker_10 ?_
    refine lv_iconst (v := (-1)) hx hb d_LB_quicker_13 (by decide) ?_
    obtain rfl := op_i1 hf
    exact rt_ca C h hr hlk ⟨rfl, rfl, rfl⟩ rfl d_LB_quicker_14
  | some a3 =>
    have hf := op_es hf
    refine lv_astore_n (lv' := [(2, .ref a3), (0, .ref (ad 0)), (1, .int v1)]) hx hb d_LB_quicker_8 rfl hl (by decide) rfl (fun ls hl => ?_)
    refine lv_aload_n hx hb d_LB_quicker_9 rfl (lv_at hl 0 rfl) ?_
    refine lv_ifnonnull (tgt := 15) hx hb d_LB_quicker_10 (by decide) ?_
    refine lv_aload_n hx hb d_LB_quicker_15 rfl (lv_at hl 0 rfl) ?_
    obtain ⟨h4, hf⟩ := op_if hf
    refine wg_3 hx hb hT hown hK ((cpS hpS h).1 a3 h4).1 ((cpS hpS h).1 a3 h4).2.1 fl_LB_91 (fun _ h9 => h9) d_LB_quicker_16 ?_
    refine lv_iconst (v := 1) hx hb d_LB_quicker_19 (by decide) ?_
    refine lv_icmp_ne (tgt := 25) hx hb d_LB_quicker_20 (by decide) (fun hc => ?_) (fun hc => ?_)
    · have hf := op_f hc hf
      refine lv_aload_n hx hb d_LB_quicker_25 rfl (lv_at hl 1 rfl) ?_
      obtain ⟨⟨F7, G8, P9, N10⟩, hc5, hf⟩ := op_bind hf
      try dsimp only at hf
      refine kx_v (C0 := R_LB) (b0 := ad 0) (rest := []) C h hA rfl (va_recv hK h.1 (ci := 11) (q0 := 0) rfl rfl) (c_LB_refresh l n E  F G P N) hc5 (cbW 0 hT cd_LB_refresh rfl rfl ini_LB ml_LB_125 hd_LB_refresh ⟨Nat.le_of_ble_eq_true rfl, Nat.le_of_ble_eq_true rfl⟩) im_LB_refresh sp_LB_refresh rfl hl.1 rfl (Nat.le_of_ble_eq_true rfl) d_LB_quicker_26 ⟨Nat.zero_le _, Nat.zero_le _⟩ (fun H locs h => ?_)
      refine lv_aload_n hx hb d_LB_quicker_29 rfl (lv_at hl 1 rfl) ?_
      refine lv_aload_n hx hb d_LB_quicker_30 rfl (lv_at hl 1 rfl) ?_
      refine cg_0_0 hx hb hT hown hK h.1 fl_LB_12 d_LB_quicker_31 ?_
      obtain ⟨x12, hc11, hf⟩ := op_bind hf
      refine kr_i (C := R_St) (b0 := ad 1) (rest := [.ref (ad 0)]) hx hb hml hown hT cB_bl (cB_to hK h.1 (cpS hpS h) hi) (va_recv hK h.1 (ci := 7) (q0 := 1) rfl rfl) (c_St_everybody l n E F7 G8 P9 N10 dC dI ad cI cZ cW cJ  _ hc11) (cbW 0 hT cd_St_everybody rfl rfl ini_St ml_LB_168 hd_St_everybody ⟨Nat.le_of_ble_eq_true rfl, Nat.le_of_ble_eq_true rfl⟩) im_St_everybody se_St_St_everybody__St_everybody rfl hl.1 rfl (Nat.le_of_ble_eq_true rfl) d_LB_quicker_34 ⟨Nat.zero_le _, Nat.zero_le _⟩ ?_
      refine lv_iconst (v := 0) hx hb d_LB_quicker_37 (by decide) ?_
      obtain ⟨⟨x14, F15, G16, P17, N18⟩, hc13, hf⟩ := op_bind hf
      try dsimp only at hf
      refine kx_i (C0 := R_LB) (b0 := ad 0) (rest := []) C h hA rfl (va_recv hK h.1 (ci := 11) (q0 := 0) rfl rfl) (c_LB_leastFor l n E x12 0 F7 G8 P9 N10) hc13 (cbW 2 hT cd_LB_leastFor rfl rfl ini_LB ml_LB_139 hd_LB_leastFor ⟨Nat.le_of_ble_eq_true rfl, Nat.le_of_ble_eq_true rfl⟩) im_LB_leastFor sp_LB_leastFor rfl hl.1 rfl (Nat.le_of_ble_eq_true rfl) d_LB_quicker_38 ⟨Nat.zero_le _, Nat.zero_le _⟩ (fun H locs h => ?_)
      refine lv_istore_n (lv' := [(3, .int x14), (2, .ref a3), (0, .ref (ad 0)), (1, .int v1)]) hx hb d_LB_quicker_41 rfl hl (by decide) rfl (fun ls hl => ?_)
      refine lv_iload_n hx hb d_LB_quicker_42 rfl (lv_at hl 0 rfl) ?_
      refine lv_bipush (v := (-5)) hx hb d_LB_quicker_43 (by decide) ?_
      refine lv_icmp_ne (tgt := 51) hx hb d_LB_quicker_45 (by decide) (fun hc => ?_) (fun hc => ?_)
      · have hf := op_f hc hf
        refine lv_aload_n hx hb d_LB_quicker_51 rfl (lv_at hl 2 rfl) ?_
        refine cg_0_4 hx hb hT hown hK h.1 fl_LB_28 d_LB_quicker_52 ?_
        refine lv_aload_n hx hb d_LB_quicker_55 rfl (lv_at hl 1 rfl) ?_
        refine wg_0 hx hb hT hown hK ((cpS hpS h).1 a3 h4).1 ((cpS hpS h).1 a3 h4).2.1 fl_LB_85 (fun _ h9 => h9) d_LB_quicker_56 ?_
        refine lv_aload_n hx hb d_LB_quicker_59 rfl (lv_at hl 1 rfl) ?_
        refine wg_1 hx hb hT hown hK ((cpS hpS h).1 a3 h4).1 ((cpS hpS h).1 a3 h4).2.1 fl_LB_100 (fun _ h9 => h9) d_LB_quicker_60 ?_
        refine lv_aload_n hx hb d_LB_quicker_63 rfl (lv_at hl 1 rfl) ?_
        refine wg_2 hx hb hT hown hK ((cpS hpS h).1 a3 h4).1 ((cpS hpS h).1 a3 h4).2.1 fl_LB_88 (fun _ h9 => h9) d_LB_quicker_64 ?_
        refine lv_aload_n hx hb d_LB_quicker_67 rfl (lv_at hl 1 rfl) ?_
        refine wg_3 hx hb hT hown hK ((cpS hpS h).1 a3 h4).1 ((cpS hpS h).1 a3 h4).2.1 fl_LB_91 (fun _ h9 => h9) d_LB_quicker_68 ?_
        refine lv_iconst (v := 1) hx hb d_LB_quicker_71 (by decide) ?_
        refine lv_isub hx hb d_LB_quicker_72 ?_
        refine lv_aload_n hx hb d_LB_quicker_73 rfl (lv_at hl 1 rfl) ?_
        refine wg_4 hx hb hT hown hK ((cpS hpS h).1 a3 h4).1 ((cpS hpS h).1 a3 h4).2.1 fl_LB_94 (fun _ h9 => h9) d_LB_quicker_74 ?_
        obtain rfl := op_i1 hf
        exact t_quicker (a := a3) (b := x14) n C h hA hr hlk h4 (fun q0 hq0 => hq (a3, x14, F15, G16, P17, N18) rfl q0 hq0) ls (lv_sub hl [2, 1, 0] rfl)
      · have hf := op_t hc hf
        refine lv_bipush (v := (-5)) hx hb d_LB_quicker_48 (by decide) ?_
        obtain rfl := op_i1 hf
        exact rt_ca C h hr hlk ⟨rfl, rfl, rfl⟩ rfl d_LB_quicker_50
    · have hf := op_t hc hf
      refine lv_iconst (v := 0) hx hb d_LB_quicker_23 (by decide) ?_
      obtain rfl := op_i1 hf
      exact rt_ca C h hr hlk ⟨rfl, rfl, rfl⟩ rfl d_LB_quicker_24
