theorem hd_LB_person : y_LB_person.cls ≠ "java/lang/invoke/MethodHandle" ∧ y_LB_person.cls ≠ "java/lang/invoke/VarHandle" ∧ (parseMethodDescriptor y_LB_person.desc).map (fun d => d.parameters.length) = some 4 := by decide +kernel
theorem d_LB_person_0 : decode b_LB_person 0 = .ok (.iload_n 1, 1) := by decide +kernel
theorem d_LB_person_1 : decode b_LB_person 1 = .ok (.ifCond .lt 9, 3) := by decide +kernel
theorem d_LB_person_4 : decode b_LB_person 4 = .ok (.iload_n 1, 1) := by decide +kernel
theorem d_LB_person_5 : decode b_LB_person 5 = .ok (.bipush 6, 2) := by decide +kernel
theorem d_LB_person_7 : decode b_LB_person 7 = .ok (.if_icmp .le 5, 3) := by decide +kernel
theorem d_LB_person_10 : decode b_LB_person 10 = .ok (.iconst (-1), 1) := by decide +kernel
theorem d_LB_person_11 : decode b_LB_person 11 = .ok (.ireturn, 1) := by decide +kernel
theorem d_LB_person_12 : decode b_LB_person 12 = .ok (.iload_n 2, 1) := by decide +kernel
theorem d_LB_person_13 : decode b_LB_person 13 = .ok (.ifCond .lt 32, 3) := by decide +kernel
theorem d_LB_person_16 : decode b_LB_person 16 = .ok (.iload_n 2, 1) := by decide +kernel
theorem d_LB_person_17 : decode b_LB_person 17 = .ok (.bipush 9, 2) := by decide +kernel
theorem d_LB_person_19 : decode b_LB_person 19 = .ok (.if_icmp .gt 26, 3) := by decide +kernel
theorem d_LB_person_22 : decode b_LB_person 22 = .ok (.iload_n 3, 1) := by decide +kernel
theorem d_LB_person_23 : decode b_LB_person 23 = .ok (.iconst 1, 1) := by decide +kernel
theorem d_LB_person_24 : decode b_LB_person 24 = .ok (.if_icmp .lt 21, 3) := by decide +kernel
theorem d_LB_person_27 : decode b_LB_person 27 = .ok (.iload_n 3, 1) := by decide +kernel
theorem d_LB_person_28 : decode b_LB_person 28 = .ok (.bipush 30, 2) := by decide +kernel
theorem d_LB_person_30 : decode b_LB_person 30 = .ok (.if_icmp .gt 15, 3) := by decide +kernel
theorem d_LB_person_33 : decode b_LB_person 33 = .ok (.iload 4, 2) := by decide +kernel
theorem d_LB_person_35 : decode b_LB_person 35 = .ok (.ifCond .lt 10, 3) := by decide +kernel
theorem d_LB_person_38 : decode b_LB_person 38 = .ok (.iload 4, 2) := by decide +kernel
theorem d_LB_person_40 : decode b_LB_person 40 = .ok (.bipush 9, 2) := by decide +kernel
theorem d_LB_person_42 : decode b_LB_person 42 = .ok (.if_icmp .le 6, 3) := by decide +kernel
theorem d_LB_person_45 : decode b_LB_person 45 = .ok (.bipush (-2), 2) := by decide +kernel
theorem d_LB_person_47 : decode b_LB_person 47 = .ok (.ireturn, 1) := by decide +kernel
theorem d_LB_person_48 : decode b_LB_person 48 = .ok (.aload_n 0, 1) := by decide +kernel
theorem d_LB_person_49 : decode b_LB_person 49 = .ok (.getfield 12, 3) := by decide +kernel
theorem d_LB_person_52 : decode b_LB_person 52 = .ok (.getfield 68, 3) := by decide +kernel
theorem d_LB_person_55 : decode b_LB_person 55 = .ok (.bipush 6, 2) := by decide +kernel
theorem d_LB_person_57 : decode b_LB_person 57 = .ok (.if_icmp .lt 6, 3) := by decide +kernel
theorem d_LB_person_60 : decode b_LB_person 60 = .ok (.bipush (-4), 2) := by decide +kernel
theorem d_LB_person_62 : decode b_LB_person 62 = .ok (.ireturn, 1) := by decide +kernel
theorem d_LB_person_63 : decode b_LB_person 63 = .ok (.aload_n 0, 1) := by decide +kernel
theorem d_LB_person_64 : decode b_LB_person 64 = .ok (.getfield 12, 3) := by decide +kernel
theorem d_LB_person_67 : decode b_LB_person 67 = .ok (.getfield 71, 3) := by decide +kernel
theorem d_LB_person_70 : decode b_LB_person 70 = .ok (.aload_n 0, 1) := by decide +kernel
theorem d_LB_person_71 : decode b_LB_person 71 = .ok (.getfield 12, 3) := by decide +kernel
theorem d_LB_person_74 : decode b_LB_person 74 = .ok (.getfield 68, 3) := by decide +kernel
theorem d_LB_person_77 : decode b_LB_person 77 = .ok (.iload_n 1, 1) := by decide +kernel
theorem d_LB_person_78 : decode b_LB_person 78 = .ok (.aload_n 0, 1) := by decide +kernel
theorem d_LB_person_79 : decode b_LB_person 79 = .ok (.getfield 12, 3) := by decide +kernel
theorem d_LB_person_82 : decode b_LB_person 82 = .ok (.getfield 68, 3) := by decide +kernel
theorem d_LB_person_85 : decode b_LB_person 85 = .ok (.iload_n 2, 1) := by decide +kernel
theorem d_LB_person_86 : decode b_LB_person 86 = .ok (.iload_n 3, 1) := by decide +kernel
theorem d_LB_person_87 : decode b_LB_person 87 = .ok (.iload 4, 2) := by decide +kernel
theorem d_LB_person_89 : decode b_LB_person 89 = .ok (.invokestatic 75, 3) := by decide +kernel
theorem d_LB_person_92 : decode b_LB_person 92 = .ok (.aastore, 1) := by decide +kernel
theorem d_LB_person_93 : decode b_LB_person 93 = .ok (.aload_n 0, 1) := by decide +kernel
theorem d_LB_person_94 : decode b_LB_person 94 = .ok (.getfield 12, 3) := by decide +kernel
theorem d_LB_person_97 : decode b_LB_person 97 = .ok (.dup, 1) := by decide +kernel
theorem d_LB_person_98 : decode b_LB_person 98 = .ok (.getfield 68, 3) := by decide +kernel
theorem d_LB_person_101 : decode b_LB_person 101 = .ok (.iconst 1, 1) := by decide +kernel
theorem d_LB_person_102 : decode b_LB_person 102 = .ok (.iadd, 1) := by decide +kernel
theorem d_LB_person_103 : decode b_LB_person 103 = .ok (.putfield 68, 3) := by decide +kernel
theorem d_LB_person_106 : decode b_LB_person 106 = .ok (.aload_n 0, 1) := by decide +kernel
theorem d_LB_person_107 : decode b_LB_person 107 = .ok (.iconst 1, 1) := by decide +kernel
theorem d_LB_person_108 : decode b_LB_person 108 = .ok (.putfield 41, 3) := by decide +kernel
theorem d_LB_person_111 : decode b_LB_person 111 = .ok (.aload_n 0, 1) := by decide +kernel
theorem d_LB_person_112 : decode b_LB_person 112 = .ok (.getfield 12, 3) := by decide +kernel
theorem d_LB_person_115 : decode b_LB_person 115 = .ok (.getfield 68, 3) := by decide +kernel
theorem d_LB_person_118 : decode b_LB_person 118 = .ok (.iconst 1, 1) := by decide +kernel
theorem d_LB_person_119 : decode b_LB_person 119 = .ok (.isub, 1) := by decide +kernel
theorem d_LB_person_120 : decode b_LB_person 120 = .ok (.ireturn, 1) := by decide +kernel
def p_LB_person (v1 v2 v3 v4 : Int32) (F : Nat → Nat → Int32) : Option (Option Int32) := (if v1 < 0 then some (some (-1)) else (if v1 ≤ 6 then (if v2 < 0 then some (some (-2)) else (if 9 < v2 then some (some (-2)) else (if v3 < 1 then some (some (-2)) else (if 30 < v3 then some (some (-2)) else (if v4 < 0 then some (some (-2)) else (if v4 ≤ 9 then (if (F 1 5) < 6 then if ix (F 1 5) 6 then some none else none else some (some (-4))) else some (some (-2)))))))) else some (some (-1))))
def post_person (v1 v2 v3 v4 : Int32) (F G : Nat → Nat → Int32) (P : Nat → Nat → Option Nat) (N : Nat → Nat) (E : PE) (z : Option Int32) (r : Int32) (u : CU) (E' : PE) : Prop := match z with
  | some x => r = x ∧ u = (F, G, P, N) ∧ E' = E
  | none => ∃ q : Nat, eV E q = false ∧ r = (upR (upR F 1 5 (F 1 5 + 1)) 0 6 1) 1 5 - 1 ∧ u = (upR (upR F 1 5 (F 1 5 + 1)) 0 6 1, G, upP P 8 (F 1 5).toNatClampNeg (some q), N) ∧ E' = addW E q (clsOf v1) (wv v1 (F 1 5) v2 v3 v4)
def rmA (d mc ms : Nat) : Room := { frames := d, cells := mc, slots := ms, locals := 40 * d }
set_option maxHeartbeats 4000000 in
theorem t_person {p : Program} {l : Launch} {e : Env} {s : State} {m : MethodId} {args : Array Value} {below : List Frame} {meth : Method} {c : Code} {H : Heap} {locs : List Loc} {dC : Nat → ClassId} {dI : Nat → Nat → Nat} {ad : Nat → Nat} {cI cZ cW cJ : ClassId} {F G : Nat → Nat → Int32} {P : Nat → Nat → Option Nat} {N : Nat → Nat} {A : Nat → Prop} {adK adV : Nat → Nat} {E : PE} (C : cC p s m args c b_LB_person 5 "LanternBridge" dC dI cI cZ cW cJ A adK adV E) (h : cH A s.heap dC dI ad cI cZ cW cJ F G P N H locs) (hA : ∀ q, s.heap.size ≤ q → A q) (hfx : ∀ q, fixA ad cI cZ cW cJ F G P N q → A q) (hr : meth.sig.returnType = some .int) (hlk : meth.locks = false) (hix : ix (F 1 5) 6) (v1 v2 v3 v4 : Int32) (ls : Array Slot) (hl : lv_has ls 5 [(0, .ref (ad 0)), (1, .int v1), (2, .int v2), (3, .int v3), (4, .int v4)]) : W p l e (rmA 14 1 5) s m args below meth c H locs 0 0 (aQi dC dI ad cI cZ cW cJ A E below args s 1 5 (post_person v1 v2 v3 v4 F G P N E none)) (F0 m 89 ls [.int v4, .int v3, .int v2, .int (F 1 5), .int v1, .int (F 1 5), .ref (ad 8)]) := by
  obtain ⟨hx, hb, hml, hown, hT, hK, hTS, hTR, hpS, hi⟩ := id C
  refine va_callr (va_runS (As := [.int v1, .int (F 1 5), .int v2, .int v3, .int v4]) (rest := [.int (F 1 5), .ref (ad 8)]) ⟨hx, hb, hml, hown, hT⟩ (c_Wa_make l dC dI H.size v1 (F 1 5) v2 v3 v4) ⟨callB_of 5 hT (goodW cd_Wa_make) rfl rfl rfl (hT _ ini_Wa) (hT _ ml_LB_75) hd_Wa_make ⟨Nat.le_of_ble_eq_true rfl, Nat.le_of_ble_eq_true rfl⟩, hT _ sm_Wa_make⟩ ⟨fun a U g mk q => ⟨q.1, q.2.1, va_K.moved (u := U) (U := U.calling g mk a) (Vm.Alike.refl U.vm) q.2.2⟩, fun U hU hW => ⟨rfl, by rw [hU], va_K.moved hW.alike (hK.sub [] rfl)⟩⟩ rfl rfl hl.1 rfl (lv_room (Nat.le_of_ble_eq_true rfl)) d_LB_person_89 ⟨Nat.le_of_ble_eq_true rfl, Nat.le_of_ble_eq_true rfl⟩) h.2.2 (fun q h1 h2 => absurd h2 (Nat.not_le.mpr h1)) (fun q h2 => hA q (Nat.le_trans h.2.2.1 h2)) (fun u q t H1 locs1 ht hvm hw hB hz1 hk1 hS => ?_)
  have hq := hB.1
  rw [ht] at hq
  have hge : s.heap.size ≤ q := Nat.le_trans h.2.2.1 hB.2.2
  have hnv : eV E q = false := by
    cases hv : eV E q with
    | false => rfl
    | true =>
      have h1 := (((cpS hpS h).1 q hv).2.1).lt
      have h2 := hB.2.2
      simp only at h1
      omega
  have hPc : va_P (dC, dI) CL (cX ad cI cZ cW cJ F G P N) H1 := fun k r hk => (h.1 k r hk).kept (hk1 r.1 (h.1 k r hk).lt (Nat.not_le.mpr (h.1 k r hk).lt))
  have h : cHY A s.heap dC dI ad cI cZ cW cJ F G P N (yX (clsOf v1) q (wv v1 (F 1 5) v2 v3 v4)) H1 locs1 := ⟨va_P.app hPc hq, va_D.app h.2.1 ⟨fun i j a b hi hj _ => by
      rcases i with _ | i
      · rcases j with _ | j
        · rfl
        · simp [yX] at hj
      · simp [yX] at hi, fun k r hk => by
      rcases k with _ | k
      · cases hk; exact hA q (Nat.le_trans h.2.2.1 hB.2.2)
      · simp [yX] at hk⟩ (fun i j a b hi hj e9 => by
      have h1 := (h.1 i a hi).lt
      rcases j with _ | j
      · cases hj
        have h2 := hB.2.2
        simp only at e9
        omega
      · simp [yX] at hj), hS⟩
  clear hPc hq hS
  generalize H1 = H at h ⊢
  generalize locs1 = locs at h ⊢
  have hqa : va_at (dC, dI) CL (q, .inr (clsOf v1, wl (wv v1 (F 1 5) v2 v3 v4))) H := ap_r h.1 0 _ rfl
  refine cwY_8 hx hb hK h (w_any hK hi (clsOf_mem v1) hqa) hix d_LB_person_92 (fun H locs h => ?_)
  refine lv_aload_n hx hb d_LB_person_93 rfl (lv_at hl 0 rfl) ?_
  refine cg_0_0 hx hb hT hown hK (ap_l h.1) fl_LB_12 d_LB_person_94 ?_
  refine lv_dup hx hb d_LB_person_97 rfl ?_
  refine cg_1_5 hx hb hT hown hK (ap_l h.1) fl_LB_68 d_LB_person_98 ?_
  refine lv_iconst (v := 1) hx hb d_LB_person_101 (by decide) ?_
  refine lv_iadd hx hb d_LB_person_102 ?_
  refine cpY_1_5 hx hb hT hown hK h fl_LB_68 d_LB_person_103 (fun H locs h => ?_)
  refine lv_aload_n hx hb d_LB_person_106 rfl (lv_at hl 0 rfl) ?_
  refine lv_iconst (v := 1) hx hb d_LB_person_107 (by decide) ?_
  refine cpY_0_6 hx hb hT hown hK h (by decide) fl_LB_41 d_LB_person_108 (fun H locs h => ?_)
  refine lv_aload_n hx hb d_LB_person_111 rfl (lv_at hl 0 rfl) ?_
  refine cg_0_0 hx hb hT hown hK (ap_l h.1) fl_LB_12 d_LB_person_112 ?_
  refine cg_1_5 hx hb hT hown hK (ap_l h.1) fl_LB_68 d_LB_person_115 ?_
  refine lv_iconst (v := 1) hx hb d_LB_person_118 (by decide) ?_
  refine lv_isub hx hb d_LB_person_119 ?_
  exact rt_cy C h hr hlk ⟨q, hnv, rfl, rfl, rfl⟩ (pS_addW (pS_old C h) (clsOf_mem v1) (ap_r h.1 0 _ rfl) (ap_ne h.2.1 (k := 0) rfl)) (pF_addW hge) rfl d_LB_person_120
set_option maxHeartbeats 4000000 in
theorem c_LB_person (l : Launch) (E : PE) (v1 v2 v3 v4 : Int32) (F G : Nat → Nat → Int32) (P : Nat → Nat → Option Nat) (N : Nat → Nat) (z : Option Int32) (hf : p_LB_person v1 v2 v3 v4 F = some z) : CAi l y_LB_person b_LB_person 5 .int (rmA 14 1 5) 1 5 E (fun ad => [.ref (ad 0), .int v1, .int v2, .int v3, .int v4]) F G P N (post_person v1 v2 v3 v4 F G P N E z) := by
  refine en_ca (by decide) (fun _ => Nat.le_of_ble_eq_true rfl) ?_
  intro p e s m args below meth c dC dI ad cI cZ cW cJ A adK adV ls C hA hAi hfx h hr hlk hl
  have hl : lv_has ls 5 [(0, .ref (ad 0)), (1, .int v1), (2, .int v2), (3, .int v3), (4, .int v4)] := hl
  unfold p_LB_person at hf
  obtain ⟨hx, hb, hml, hown, hT, hK, hTS, hTR, hpS, hi⟩ := id C
  refine lv_iload_n hx hb d_LB_person_0 rfl (lv_at hl 1 rfl) ?_
  refine lv_if_lt (tgt := 10) hx hb d_LB_person_1 (by decide) (fun hc => ?_) (fun hc => ?_)
  · have hf := op_t hc hf
    refine lv_iconst (v := (-1)) hx hb d_LB_person_10 (by decide) ?_
    obtain rfl := op_i1 hf
    exact rt_ca C h hr hlk ⟨rfl, rfl, rfl⟩ rfl d_LB_person_11
  · have hf := op_f hc hf
    refine lv_iload_n hx hb d_LB_person_4 rfl (lv_at hl 1 rfl) ?_
    refine lv_bipush (v := 6) hx hb d_LB_person_5 (by decide) ?_
    refine lv_icmp_le (tgt := 12) hx hb d_LB_person_7 (by decide) (fun hc => ?_) (fun hc => ?_)
    · have hf := op_t hc hf
      refine lv_iload_n hx hb d_LB_person_12 rfl (lv_at hl 2 rfl) ?_
      refine lv_if_lt (tgt := 45) hx hb d_LB_person_13 (by decide) (fun hc => ?_) (fun hc => ?_)
      · have hf := op_t hc hf
        refine lv_bipush (v := (-2)) hx hb d_LB_person_45 (by decide) ?_
        obtain rfl := op_i1 hf
        exact rt_ca C h hr hlk ⟨rfl, rfl, rfl⟩ rfl d_LB_person_47
      · have hf := op_f hc hf
        refine lv_iload_n hx hb d_LB_person_16 rfl (lv_at hl 2 rfl) ?_
        refine lv_bipush (v := 9) hx hb d_LB_person_17 (by decide) ?_
        refine lv_icmp_gt (tgt := 45) hx hb d_LB_person_19 (by decide) (fun hc => ?_) (fun hc => ?_)
        · have hf := op_t hc hf
          refine lv_bipush (v := (-2)) hx hb d_LB_person_45 (by decide) ?_
          obtain rfl := op_i1 hf
          exact rt_ca C h hr hlk ⟨rfl, rfl, rfl⟩ rfl d_LB_person_47
        · have hf := op_f hc hf
          refine lv_iload_n hx hb d_LB_person_22 rfl (lv_at hl 3 rfl) ?_
          refine lv_iconst (v := 1) hx hb d_LB_person_23 (by decide) ?_
          refine lv_icmp_lt (tgt := 45) hx hb d_LB_person_24 (by decide) (fun hc => ?_) (fun hc => ?_)
          · have hf := op_t hc hf
            refine lv_bipush (v := (-2)) hx hb d_LB_person_45 (by decide) ?_
            obtain rfl := op_i1 hf
            exact rt_ca C h hr hlk ⟨rfl, rfl, rfl⟩ rfl d_LB_person_47
          · have hf := op_f hc hf
            refine lv_iload_n hx hb d_LB_person_27 rfl (lv_at hl 3 rfl) ?_
            refine lv_bipush (v := 30) hx hb d_LB_person_28 (by decide) ?_
            refine lv_icmp_gt (tgt := 45) hx hb d_LB_person_30 (by decide) (fun hc => ?_) (fun hc => ?_)
            · have hf := op_t hc hf
              refine lv_bipush (v := (-2)) hx hb d_LB_person_45 (by decide) ?_
              obtain rfl := op_i1 hf
              exact rt_ca C h hr hlk ⟨rfl, rfl, rfl⟩ rfl d_LB_person_47
            · have hf := op_f hc hf
              refine lv_iload hx hb d_LB_person_33 (lv_at hl 4 rfl) ?_
              refine lv_if_lt (tgt := 45) hx hb d_LB_person_35 (by decide) (fun hc => ?_) (fun hc => ?_)
              · have hf := op_t hc hf
                refine lv_bipush (v := (-2)) hx hb d_LB_person_45 (by decide) ?_
                obtain rfl := op_i1 hf
                exact rt_ca C h hr hlk ⟨rfl, rfl, rfl⟩ rfl d_LB_person_47
              · have hf := op_f hc hf
                refine lv_iload hx hb d_LB_person_38 (lv_at hl 4 rfl) ?_
                refine lv_bipush (v := 9) hx hb d_LB_person_40 (by decide) ?_
                refine lv_icmp_le (tgt := 48) hx hb d_LB_person_42 (by decide) (fun hc => ?_) (fun hc => ?_)
                · have hf := op_t hc hf
                  refine lv_aload_n hx hb d_LB_person_48 rfl (lv_at hl 0 rfl) ?_
                  refine cg_0_0 hx hb hT hown hK h.1 fl_LB_12 d_LB_person_49 ?_
                  refine cg_1_5 hx hb hT hown hK h.1 fl_LB_68 d_LB_person_52 ?_
                  refine lv_bipush (v := 6) hx hb d_LB_person_55 (by decide) ?_
                  refine lv_icmp_lt (tgt := 63) hx hb d_LB_person_57 (by decide) (fun hc => ?_) (fun hc => ?_)
                  · have hf := op_t hc hf
                    refine lv_aload_n hx hb d_LB_person_63 rfl (lv_at hl 0 rfl) ?_
                    refine cg_0_0 hx hb hT hown hK h.1 fl_LB_12 d_LB_person_64 ?_
                    refine cg_1_4 hx hb hT hown hK h.1 fl_LB_71 d_LB_person_67 ?_
                    refine lv_aload_n hx hb d_LB_person_70 rfl (lv_at hl 0 rfl) ?_
                    refine cg_0_0 hx hb hT hown hK h.1 fl_LB_12 d_LB_person_71 ?_
                    refine cg_1_5 hx hb hT hown hK h.1 fl_LB_68 d_LB_person_74 ?_
                    refine lv_iload_n hx hb d_LB_person_77 rfl (lv_at hl 1 rfl) ?_
                    refine lv_aload_n hx hb d_LB_person_78 rfl (lv_at hl 0 rfl) ?_
                    refine cg_0_0 hx hb hT hown hK h.1 fl_LB_12 d_LB_person_79 ?_
                    refine cg_1_5 hx hb hT hown hK h.1 fl_LB_68 d_LB_person_82 ?_
                    refine lv_iload_n hx hb d_LB_person_85 rfl (lv_at hl 2 rfl) ?_
                    refine lv_iload_n hx hb d_LB_person_86 rfl (lv_at hl 3 rfl) ?_
                    refine lv_iload hx hb d_LB_person_87 (lv_at hl 4 rfl) ?_
                    obtain ⟨h1, hf⟩ := op_if hf
                    obtain rfl := op_i1 hf
                    exact t_person C h hA hfx hr hlk h1 v1 v2 v3 v4 ls hl
                  · have hf := op_f hc hf
                    refine lv_bipush (v := (-4)) hx hb d_LB_person_60 (by decide) ?_
                    obtain rfl := op_i1 hf
                    exact rt_ca C h hr hlk ⟨rfl, rfl, rfl⟩ rfl d_LB_person_62
                · have hf := op_f hc hf
                  refine lv_bipush (v := (-2)) hx hb d_LB_person_45 (by decide) ?_
                  obtain rfl := op_i1 hf
                  exact rt_ca C h hr hlk ⟨rfl, rfl, rfl⟩ rfl d_LB_person_47
    · have hf := op_f hc hf
      refine lv_iconst (v := (-1)) hx hb d_LB_person_10 (by decide) ?_
      obtain rfl := op_i1 hf
      exact rt_ca C h hr hlk ⟨rfl, rfl, rfl⟩ rfl d_LB_person_11
