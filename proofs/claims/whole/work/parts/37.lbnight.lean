theorem hd_LB_night : y_LB_night.cls ≠ "java/lang/invoke/MethodHandle" ∧ y_LB_night.cls ≠ "java/lang/invoke/VarHandle" ∧ (parseMethodDescriptor y_LB_night.desc).map (fun d => d.parameters.length) = some 0 := by decide +kernel
theorem d_LB_night_0 : decode b_LB_night 0 = .ok (.aload_n 0, 1) := by decide +kernel
theorem d_LB_night_1 : decode b_LB_night 1 = .ok (.getfield 12, 3) := by decide +kernel
theorem d_LB_night_4 : decode b_LB_night 4 = .ok (.getfield 52, 3) := by decide +kernel
theorem d_LB_night_7 : decode b_LB_night 7 = .ok (.iconst 5, 1) := by decide +kernel
theorem d_LB_night_8 : decode b_LB_night 8 = .ok (.if_icmp .lt 6, 3) := by decide +kernel
theorem d_LB_night_11 : decode b_LB_night 11 = .ok (.bipush (-4), 2) := by decide +kernel
theorem d_LB_night_13 : decode b_LB_night 13 = .ok (.ireturn, 1) := by decide +kernel
theorem d_LB_night_14 : decode b_LB_night 14 = .ok (.new 55, 3) := by decide +kernel
theorem d_LB_night_17 : decode b_LB_night 17 = .ok (.dup, 1) := by decide +kernel
theorem d_LB_night_18 : decode b_LB_night 18 = .ok (.aload_n 0, 1) := by decide +kernel
theorem d_LB_night_19 : decode b_LB_night 19 = .ok (.getfield 12, 3) := by decide +kernel
theorem d_LB_night_22 : decode b_LB_night 22 = .ok (.getfield 49, 3) := by decide +kernel
theorem d_LB_night_25 : decode b_LB_night 25 = .ok (.aload_n 0, 1) := by decide +kernel
theorem d_LB_night_26 : decode b_LB_night 26 = .ok (.getfield 12, 3) := by decide +kernel
theorem d_LB_night_29 : decode b_LB_night 29 = .ok (.getfield 45, 3) := by decide +kernel
theorem d_LB_night_32 : decode b_LB_night 32 = .ok (.invokespecial 57, 3) := by decide +kernel
theorem d_LB_night_35 : decode b_LB_night 35 = .ok (.astore_n 1, 1) := by decide +kernel
theorem d_LB_night_36 : decode b_LB_night 36 = .ok (.aload_n 0, 1) := by decide +kernel
theorem d_LB_night_37 : decode b_LB_night 37 = .ok (.getfield 12, 3) := by decide +kernel
theorem d_LB_night_40 : decode b_LB_night 40 = .ok (.iconst 0, 1) := by decide +kernel
theorem d_LB_night_41 : decode b_LB_night 41 = .ok (.putfield 45, 3) := by decide +kernel
theorem d_LB_night_44 : decode b_LB_night 44 = .ok (.aload_n 1, 1) := by decide +kernel
theorem d_LB_night_45 : decode b_LB_night 45 = .ok (.invokevirtual 60, 3) := by decide +kernel
theorem d_LB_night_48 : decode b_LB_night 48 = .ok (.istore_n 2, 1) := by decide +kernel
theorem d_LB_night_49 : decode b_LB_night 49 = .ok (.iload_n 2, 1) := by decide +kernel
theorem d_LB_night_50 : decode b_LB_night 50 = .ok (.ifCond .lt 8, 3) := by decide +kernel
theorem d_LB_night_53 : decode b_LB_night 53 = .ok (.bipush (-10), 2) := by decide +kernel
theorem d_LB_night_55 : decode b_LB_night 55 = .ok (.iload_n 2, 1) := by decide +kernel
theorem d_LB_night_56 : decode b_LB_night 56 = .ok (.isub, 1) := by decide +kernel
theorem d_LB_night_57 : decode b_LB_night 57 = .ok (.ireturn, 1) := by decide +kernel
theorem d_LB_night_58 : decode b_LB_night 58 = .ok (.aload_n 0, 1) := by decide +kernel
theorem d_LB_night_59 : decode b_LB_night 59 = .ok (.getfield 12, 3) := by decide +kernel
theorem d_LB_night_62 : decode b_LB_night 62 = .ok (.aload_n 1, 1) := by decide +kernel
theorem d_LB_night_63 : decode b_LB_night 63 = .ok (.putfield 64, 3) := by decide +kernel
theorem d_LB_night_66 : decode b_LB_night 66 = .ok (.aload_n 0, 1) := by decide +kernel
theorem d_LB_night_67 : decode b_LB_night 67 = .ok (.getfield 12, 3) := by decide +kernel
theorem d_LB_night_70 : decode b_LB_night 70 = .ok (.dup, 1) := by decide +kernel
theorem d_LB_night_71 : decode b_LB_night 71 = .ok (.getfield 52, 3) := by decide +kernel
theorem d_LB_night_74 : decode b_LB_night 74 = .ok (.iconst 1, 1) := by decide +kernel
theorem d_LB_night_75 : decode b_LB_night 75 = .ok (.iadd, 1) := by decide +kernel
theorem d_LB_night_76 : decode b_LB_night 76 = .ok (.putfield 52, 3) := by decide +kernel
theorem d_LB_night_79 : decode b_LB_night 79 = .ok (.aload_n 0, 1) := by decide +kernel
theorem d_LB_night_80 : decode b_LB_night 80 = .ok (.iconst 1, 1) := by decide +kernel
theorem d_LB_night_81 : decode b_LB_night 81 = .ok (.putfield 41, 3) := by decide +kernel
theorem d_LB_night_84 : decode b_LB_night 84 = .ok (.aload_n 0, 1) := by decide +kernel
theorem d_LB_night_85 : decode b_LB_night 85 = .ok (.getfield 12, 3) := by decide +kernel
theorem d_LB_night_88 : decode b_LB_night 88 = .ok (.getfield 52, 3) := by decide +kernel
theorem d_LB_night_91 : decode b_LB_night 91 = .ok (.iconst 1, 1) := by decide +kernel
theorem d_LB_night_92 : decode b_LB_night 92 = .ok (.isub, 1) := by decide +kernel
theorem d_LB_night_93 : decode b_LB_night 93 = .ok (.ireturn, 1) := by decide +kernel
def addN (E : PE) (a : Nat) (an : Nat → Nat) (tl : Nat) (I : Nat → Int32) (R : Nat → Nat → Int32) : PE := (E.1, E.2.1, E.2.2.1, fun b => if b = a then true else E.2.2.2.1 b, fun b => if b = a then an else E.2.2.2.2.1 b, fun b => if b = a then tl else E.2.2.2.2.2.1 b, fun b => if b = a then I else E.2.2.2.2.2.2.1 b, fun b => if b = a then R else E.2.2.2.2.2.2.2 b)
theorem pS_addN {dC : Nat → ClassId} {dI : Nat → Nat → Nat} {cI : ClassId} {E : PE} {A : Nat → Prop} {H : Heap} {a tl : Nat} {an : Nat → Nat} {I : Nat → Int32} {R : Nat → Nat → Int32} (h : pS dC dI cI E A H) (h0 : an 0 = a) (hP : va_P (dC, dI) CL (nX an cI tl I R) H) (hA : ∀ (k : Nat) (q : Nat × va_E), (nX an cI tl I R)[k]? = some q → ¬ A q.1) : pS dC dI cI (addN E a an tl I R) A H := by
  refine ⟨h.1, fun b hb => ?_⟩
  by_cases e : b = a
  · subst e
    have hx : nX (nAd (addN E b an tl I R) b) cI (eT (addN E b an tl I R) b) (eI (addN E b an tl I R) b) (eR (addN E b an tl I R) b) = nX an cI tl I R := by
      simp [nX, nAd, eA, eT, eI, eR, addN, h0]
    rw [hx]
    exact ⟨hP, hA⟩
  · have h1 : eN E b = true := by
      have h2 : (if b = a then true else E.2.2.2.1 b) = true := hb
      rw [if_neg e] at h2
      exact h2
    have hx : nX (nAd (addN E a an tl I R) b) cI (eT (addN E a an tl I R) b) (eI (addN E a an tl I R) b) (eR (addN E a an tl I R) b) = nX (nAd E b) cI (eT E b) (eI E b) (eR E b) := by
      simp [nX, nAd, eA, eT, eI, eR, addN, e]
    rw [hx]
    exact h.2 b h1
theorem pF_addN {cI : ClassId} {E : PE} {a tl sz : Nat} {an : Nat → Nat} {I : Nat → Int32} {R : Nat → Nat → Int32} (h0 : an 0 = a) (h : ∀ (k : Nat) (q : Nat × va_E), (nX an cI tl I R)[k]? = some q → sz ≤ q.1) : pF E (addN E a an tl I R) sz := fun x hx => by
  rcases hx with hx | ⟨b, hb, hx⟩
  · exact Or.inl (Or.inl hx)
  · by_cases e : b = a
    · subst e
      have e1 : ∀ k, eA (addN E b an tl I R) b k = an k := fun k => by simp [eA, addN]
      simp only [e1] at hx
      rcases hx with rfl | rfl | rfl | rfl | rfl | rfl
      · rw [← h0]; exact Or.inr (h 0 _ rfl)
      · exact Or.inr (h 1 _ rfl)
      · exact Or.inr (h 2 _ rfl)
      · exact Or.inr (h 3 _ rfl)
      · exact Or.inr (h 4 _ rfl)
      · exact Or.inr (h 5 _ rfl)
    · have h1 : eN E b = true := by
        have h2 : (if b = a then true else E.2.2.2.1 b) = true := hb
        rw [if_neg e] at h2
        exact h2
      have e1 : ∀ k, eA (addN E a an tl I R) b k = eA E b k := fun k => by simp [eA, addN, e]
      simp only [e1] at hx
      exact Or.inl (Or.inr ⟨b, h1, hx⟩)
def post_night (F G : Nat → Nat → Int32) (P : Nat → Nat → Option Nat) (N : Nat → Nat) (E : PE) (r0 : Int32) (I1 : Nat → Int32) (R1 : Nat → Nat → Int32) (r : Int32) (u : CU) (E' : PE) : Prop :=
  (5 ≤ F 1 3 ∧ r = -4 ∧ u = (F, G, P, N) ∧ E' = E) ∨ (¬ 5 ≤ F 1 3 ∧ ¬ r0 < 0 ∧ r = -10 - r0 ∧ u = (upR F 1 1 0, G, P, N) ∧ E' = E) ∨
  (¬ 5 ≤ F 1 3 ∧ r0 < 0 ∧ ∃ (a : Nat) (an : Nat → Nat), eN E a = false ∧ r = (upR (upR (upR F 1 1 0) 1 3 ((upR F 1 1 0) 1 3 + 1)) 0 6 1) 1 3 - 1 ∧ u = (upR (upR (upR F 1 1 0) 1 3 ((upR F 1 1 0) 1 3 + 1)) 0 6 1, G, P, upN N 1 a) ∧ E' = addN E a an (nTl (F 1 1) 100) I1 R1)
set_option maxHeartbeats 8000000 in
theorem t_night2 {p : Program} {l : Launch} {e : Env} {s : State} {m : MethodId} {args : Array Value} {below : List Frame} {meth : Method} {c : Code} {H : Heap} {locs : List Loc} {dC : Nat → ClassId} {dI : Nat → Nat → Nat} {ad : Nat → Nat} {cI cZ cW cJ : ClassId} {G : Nat → Nat → Int32} {P : Nat → Nat → Option Nat} {N : Nat → Nat} {A : Nat → Prop} {adK adV : Nat → Nat} {E : PE} {F0_ : Nat → Nat → Int32} {r0 : Int32} {I1 : Nat → Int32} {R1 : Nat → Nat → Int32} {a tl : Nat} {an : Nat → Nat} (n : Nat) (C : cC p s m args c b_LB_night 3 "LanternBridge" dC dI cI cZ cW cJ A adK adV E) (h : cHY A s.heap dC dI ad cI cZ cW cJ F0_ G P N (nX an cI tl nI0 (nR0 (G 6) tl)) H locs) (hA : ∀ q, s.heap.size ≤ q → A q) (hAi : aI A ad s.heap.size) (hr : meth.sig.returnType = some .int) (hlk : meth.locks = false) (h0 : an 0 = a) (hnv : eN E a = false) (htl : tl = nTl (F0_ 1 1) 100) (h5 : ¬ 5 ≤ F0_ 1 3) (hrd : p_Ni_read n tl nI0 (nR0 (G 6) tl) = some (r0, I1, R1)) (ls : Array Slot) (hl : lv_has ls 3 [(0, .ref (ad 0))]) : W p l e (rmA 60 6 241) s m args below meth c H locs 6 241 (aQi dC dI ad cI cZ cW cJ A E below args s 6 241 (post_night F0_ G P N E r0 I1 R1)) (F0 m 35 ls [.ref a]) := by
  obtain ⟨hx, hb, hml, hown, hT, hK, hTS, hTR, hpS, hi⟩ := id C
  refine lv_astore_n (lv' := [(1, .ref a), (0, .ref (ad 0))]) hx hb d_LB_night_35 rfl hl (by decide) rfl (fun ls hl => ?_)
  refine lv_aload_n hx hb d_LB_night_36 rfl (lv_at hl 1 rfl) ?_
  refine cg_0_0 hx hb hT hown hK (ap_l h.1) fl_LB_12 d_LB_night_37 ?_
  refine lv_iconst (v := 0) hx hb d_LB_night_40 (by decide) ?_
  refine cpY_1_1 hx hb hT hown hK h fl_LB_45 d_LB_night_41 (fun H locs h => ?_)
  refine lv_aload_n hx hb d_LB_night_44 rfl (lv_at hl 0 rfl) ?_
  have hPn := ap_r h.1
  have hDn := ap_rD h.2.1
  have hFn : ∀ q, va_A (nX an cI tl nI0 (nR0 (G 6) tl)) H.size q → A q := fun q hq => by
    rcases hq with ⟨k, e, hk⟩ | hq
    · exact hDn.2 k _ hk
    · exact hA q (Nat.le_trans h.2.2.1 hq)
  refine va_calli (va_runV (C := R_Ni) (b := an 0) (As := []) (rest := []) ⟨hx, hb, hml, hown, hT⟩ (c_Ni_read l n tl nI0 (nR0 (G 6) tl) _ hrd dC dI an cI adK adV H.size) ⟨cbW 0 hT cd_Ni_read rfl rfl ini_Ni ml_LB_60 hd_Ni_read (by exact ⟨Nat.le_of_ble_eq_true rfl, Nat.le_of_ble_eq_true rfl⟩), hT _ im_Ni_read, hT _ se_Ni_Ni_read__Ni_read⟩ ⟨fun a U g mk q => ⟨q.1, q.2.1, q.2.2.1, va_K.moved (u := U) (U := U.calling g mk a) (Vm.Alike.refl U.vm) q.2.2.2.1, q.2.2.2.2.1, q.2.2.2.2.2.1.moved (u := U) (U := U.calling g mk a) (Vm.Alike.refl U.vm), q.2.2.2.2.2.2.same rfl⟩, va_recv hK hPn (ci := 4) (q0 := 0) rfl rfl, fun U hU hW => ⟨rfl, by rw [hU], by rw [hU]; exact hPn, va_K.moved hW.alike (hK.sub [0] rfl), hDn.weaken (fun _ _ _ _ => trivial), by rw [hU]; exact ((hTS.kept h.2.2.2.1).moved hW.alike).narrow hFn, hTR.warm hW⟩⟩ rfl rfl hl.1 (by rw [h0]; rfl) (lv_room (Nat.le_of_ble_eq_true rfl)) d_LB_night_45 ⟨Nat.le_of_ble_eq_true rfl, Nat.le_of_ble_eq_true rfl⟩) h.2.2 (fun q _ hq => hFn q hq) hFn (fun r1 u1 t H1 locs1 ht hvm hw hB hz1 hk1 hS => ?_)
  cases hw
  have hP1 : va_P (dC, dI) CL (nX an cI tl I1 R1) H1 := by rw [← ht]; exact hB.1
  have hcx : ∀ (k : Nat) (q : Nat × va_E), (cX ad cI cZ cW cJ (upR F0_ 1 1 0) G P N)[k]? = some q → q.1 < H.size ∧ ¬ va_A (nX an cI tl nI0 (nR0 (G 6) tl)) H.size q.1 := fun k q hk => by
    have hlt := (ap_l h.1 k q hk).lt
    refine ⟨hlt, fun h2 => ?_⟩
    rcases h2 with ⟨j, e, hj⟩ | h2
    · exact ap_ne h.2.1 hj ⟨k, q.2, hk⟩
    · omega
  have hPc : va_P (dC, dI) CL (cX ad cI cZ cW cJ (upR F0_ 1 1 0) G P N) H1 := fun k q hk => (ap_l h.1 k q hk).kept (hk1 q.1 (hcx k q hk).1 (hcx k q hk).2)
  have h : cHY A s.heap dC dI ad cI cZ cW cJ (upR F0_ 1 1 0) G P N (nX an cI tl I1 R1) H1 locs1 := ⟨va_P.app hPc hP1, va_D.app (ap_lD h.2.1) (hB.2.2.weaken (fun _ q _ hq => hFn _ hq)) (fun i j x y hi hj e9 => by
      have h1 := hB.2.2.2 j y hj
      rw [← e9] at h1
      exact (hcx i x hi).2 h1), hS⟩
  clear hP1 hcx hPc hPn hDn hFn hk1 hS
  generalize H1 = H at h ⊢
  generalize locs1 = locs at h ⊢
  refine lv_istore_n (lv' := [(2, .int r0), (1, .ref a), (0, .ref (ad 0))]) hx hb d_LB_night_48 rfl hl (by decide) rfl (fun ls hl => ?_)
  refine lv_iload_n hx hb d_LB_night_49 rfl (lv_at hl 0 rfl) ?_
  refine lv_if_lt (tgt := 58) hx hb d_LB_night_50 (by decide) (fun hc => ?_) (fun hc => ?_)
  · refine lv_aload_n hx hb d_LB_night_58 rfl (lv_at hl 2 rfl) ?_
    refine cg_0_0 hx hb hT hown hK (ap_l h.1) fl_LB_12 d_LB_night_59 ?_
    refine lv_aload_n hx hb d_LB_night_62 rfl (lv_at hl 1 rfl) ?_
    refine cpY_1_2 hx hb hT hown hK h fl_LB_64 d_LB_night_63 (fun H locs h => ?_)
    refine lv_aload_n hx hb d_LB_night_66 rfl (lv_at hl 2 rfl) ?_
    refine cg_0_0 hx hb hT hown hK (ap_l h.1) fl_LB_12 d_LB_night_67 ?_
    refine lv_dup hx hb d_LB_night_70 rfl ?_
    refine cg_1_3 hx hb hT hown hK (ap_l h.1) fl_LB_52 d_LB_night_71 ?_
    refine lv_iconst (v := 1) hx hb d_LB_night_74 (by decide) ?_
    refine lv_iadd hx hb d_LB_night_75 ?_
    refine cpY_1_3 hx hb hT hown hK h fl_LB_52 d_LB_night_76 (fun H locs h => ?_)
    refine lv_aload_n hx hb d_LB_night_79 rfl (lv_at hl 2 rfl) ?_
    refine lv_iconst (v := 1) hx hb d_LB_night_80 (by decide) ?_
    refine cpY_0_6 hx hb hT hown hK h (by decide) fl_LB_41 d_LB_night_81 (fun H locs h => ?_)
    refine lv_aload_n hx hb d_LB_night_84 rfl (lv_at hl 2 rfl) ?_
    refine cg_0_0 hx hb hT hown hK (ap_l h.1) fl_LB_12 d_LB_night_85 ?_
    refine cg_1_3 hx hb hT hown hK (ap_l h.1) fl_LB_52 d_LB_night_88 ?_
    refine lv_iconst (v := 1) hx hb d_LB_night_91 (by decide) ?_
    refine lv_isub hx hb d_LB_night_92 ?_
    exact rt_cy C h hr hlk (Or.inr (Or.inr ⟨h5, hc, a, an, hnv, rfl, rfl, by rw [htl]⟩)) (pS_addN (pS_old C h) h0 (ap_r h.1) (fun k q hk => ap_ne h.2.1 hk)) (pF_addN h0 (fun k q hk => ap_ge hAi h.2.1 hk)) rfl d_LB_night_93
  · refine lv_bipush (v := -10) hx hb d_LB_night_53 (by decide) ?_
    refine lv_iload_n hx hb d_LB_night_55 rfl (lv_at hl 0 rfl) ?_
    refine lv_isub hx hb d_LB_night_56 ?_
    exact rt_cy C h hr hlk (Or.inr (Or.inl ⟨h5, hc, rfl, rfl, rfl⟩)) (pS_old C h) pF.rf rfl d_LB_night_57
set_option maxHeartbeats 8000000 in
theorem c_LB_night (l : Launch) (n : Nat) (E : PE) (F G : Nat → Nat → Int32) (P : Nat → Nat → Option Nat) (N : Nat → Nat) (r0 : Int32) (I1 : Nat → Int32) (R1 : Nat → Nat → Int32) (hrd : ¬ 5 ≤ F 1 3 → p_Ni_read n (nTl (F 1 1) 100) nI0 (nR0 (G 6) (nTl (F 1 1) 100)) = some (r0, I1, R1)) : CAi l y_LB_night b_LB_night 3 .int (rmA 60 6 241) 6 241 E (fun ad => [.ref (ad 0)]) F G P N (post_night F G P N E r0 I1 R1) := by
  refine en_ca (by decide) (fun _ => Nat.le_of_ble_eq_true rfl) ?_
  intro p e s m args below meth c dC dI ad cI cZ cW cJ A adK adV ls C hA hAi hfx h hr hlk hl
  have hl : lv_has ls 3 [(0, .ref (ad 0))] := hl
  obtain ⟨hx, hb, hml, hown, hT, hK, hTS, hTR, hpS, hi⟩ := id C
  refine lv_aload_n hx hb d_LB_night_0 rfl (lv_at hl 0 rfl) ?_
  refine cg_0_0 hx hb hT hown hK h.1 fl_LB_12 d_LB_night_1 ?_
  refine cg_1_3 hx hb hT hown hK h.1 fl_LB_52 d_LB_night_4 ?_
  refine lv_iconst (v := 5) hx hb d_LB_night_7 (by decide) ?_
  refine lv_icmp_lt (tgt := 14) hx hb d_LB_night_8 (by decide) (fun hc => ?_) (fun hc => ?_)
  · have h5 : ¬ 5 ≤ F 1 3 := fun h9 => by
      rw [Int32.lt_iff_toInt_lt] at hc
      rw [Int32.le_iff_toInt_le] at h9
      omega
    refine va_new (ci := 4) (fs := [.int 0, .int 0, .int 0, .null, .int 0, .null, .int 0, .null, .null, .null, .int 0]) (C := R_Ni) (T := F_Ni) (N := 11) hx hb hT uw_Ni ty_Ni ok_Ni hown (hT _ kl_LB_55) (hT _ ia_Ni) (hT _ ini_Ni) hK h.1 h.2.1 h.2.2 hA rfl (fun j hj => by rcases (show j = 0 ∨ j = 1 ∨ j = 2 ∨ j = 3 ∨ j = 4 ∨ j = 5 ∨ j = 6 ∨ j = 7 ∨ j = 8 ∨ j = 9 ∨ j = 10 by omega) with rfl | rfl | rfl | rfl | rfl | rfl | rfl | rfl | rfl | rfl | rfl <;> rfl) (Nat.le_of_ble_eq_true rfl) (Nat.le_of_ble_eq_true rfl) d_LB_night_14 (fun a H hP hD hS => ?_)
    have hP : va_P (dC, dI) CL (cX ad cI cZ cW cJ F G P N ++ [(a, .inr (4, [.int 0, .int 0, .int 0, .null, .int 0, .null, .int 0, .null, .null, .null, .int 0]))]) H := hP
    have hD : va_D A (cX ad cI cZ cW cJ F G P N ++ [(a, .inr (4, [.int 0, .int 0, .int 0, .null, .int 0, .null, .int 0, .null, .null, .null, .int 0]))]) := hD
    have hnv : eN E a = false := by
      cases hv : eN E a with
      | false => rfl
      | true =>
        exfalso
        have h1 := ((cpS hpS h).2 a hv).1 0 _ rfl
        have h2 := (hpS.2 a hv).2 0 _ rfl
        have h3 : A a := hD.2 26 (a, .inr (4, [.int 0, .int 0, .int 0, .null, .int 0, .null, .int 0, .null, .null, .null, .int 0])) rfl
        exact h2 h3
    refine lv_dup hx hb d_LB_night_17 rfl ?_
    refine lv_aload_n hx hb d_LB_night_18 rfl (lv_at hl 0 rfl) ?_
    refine cg_0_0 hx hb hT hown hK (ap_l hP) fl_LB_12 d_LB_night_19 ?_
    refine cg_1_0 hx hb hT hown hK (ap_l hP) fl_LB_49 d_LB_night_22 ?_
    refine lv_aload_n hx hb d_LB_night_25 rfl (lv_at hl 0 rfl) ?_
    refine cg_0_0 hx hb hT hown hK (ap_l hP) fl_LB_12 d_LB_night_26 ?_
    refine cg_1_1 hx hb hT hown hK (ap_l hP) fl_LB_45 d_LB_night_29 ?_
    have hPc := hP.sub (ws' := nW0 a (ad 6) cI 100 (G 6)) [26, 6] rfl
    have hDc := hD.sub (ws' := nW0 a (ad 6) cI 100 (G 6)) [26, 6] (by decide) rfl
    have hFc := va_free (wc := nW0 a (ad 6) cI 100 (G 6)) hD hS hA [26, 6] rfl
    refine va_callv (va_runI (As := [.ref (ad 6), .int (F 1 1)]) (rest := [.ref a]) ⟨hx, hb, hml, hown, hT⟩ (c_Ni_init l dC dI a (ad 6) cI 100 (by decide) (G 6) (F 1 1) H.size) ⟨callB_of 2 hT (goodW cd_Ni_init) rfl rfl rfl (hT _ ini_Ni) (hT _ ml_LB_57) hd_Ni_init ⟨Nat.le_of_ble_eq_true rfl, Nat.le_of_ble_eq_true rfl⟩, rfl, hT _ im_Ni_init⟩ ⟨fun a U g mk q => ⟨q.1, q.2.1, q.2.2.1, va_K.moved (u := U) (U := U.calling g mk a) (Vm.Alike.refl U.vm) q.2.2.2.1, q.2.2.2.2⟩, fun U hU hW => ⟨rfl, by rw [hU], by rw [hU]; exact hPc, va_K.moved hW.alike (hK.sub [0] rfl), hDc.weaken (fun _ _ _ _ => trivial)⟩⟩ rfl rfl hl.1 rfl (lv_room (Nat.le_of_ble_eq_true rfl)) d_LB_night_32 ⟨Nat.le_of_ble_eq_true rfl, Nat.le_of_ble_eq_true rfl⟩) hS (fun q _ h => hFc q h) hFc (fun an t H1 locs1 ht hvm hw hB hz1 hk1 hS => ?_)
    obtain ⟨h0, hP1, hK1, hD1⟩ := hB
    rw [ht] at hP1
    obtain ⟨hP, hD⟩ := va_join (wr := ([0, 1, 2, 3, 4, 5, 7, 8, 9, 10, 11, 12, 13, 14, 15, 16, 17, 18, 19, 20, 21, 22, 23, 24, 25] : List Nat).filterMap (fun i => (cX ad cI cZ cW cJ F G P N ++ [(a, .inr (4, [.int 0, .int 0, .int 0, .null, .int 0, .null, .int 0, .null, .null, .null, .int 0]))])[i]?)) hP hD [26, 6] [0, 1, 2, 3, 4, 5, 7, 8, 9, 10, 11, 12, 13, 14, 15, 16, 17, 18, 19, 20, 21, 22, 23, 24, 25] rfl rfl (by decide) (by decide) hk1 hFc hP1 hD1
    have hP := hP.sub (ws' := cX ad cI cZ cW cJ F G P N ++ nX an cI (nTl (F 1 1) 100) nI0 (nR0 (G 6) (nTl (F 1 1) 100))) [0, 1, 2, 3, 4, 5, 31, 6, 7, 8, 9, 10, 11, 12, 13, 14, 15, 16, 17, 18, 19, 20, 21, 22, 23, 24, 25, 26, 27, 28, 29, 30] rfl
    have hD := hD.sub (ws' := cX ad cI cZ cW cJ F G P N ++ nX an cI (nTl (F 1 1) 100) nI0 (nR0 (G 6) (nTl (F 1 1) 100))) [0, 1, 2, 3, 4, 5, 31, 6, 7, 8, 9, 10, 11, 12, 13, 14, 15, 16, 17, 18, 19, 20, 21, 22, 23, 24, 25, 26, 27, 28, 29, 30] (by decide) rfl
    exact t_night2 n C ⟨hP, hD, hS⟩ hA hAi hr hlk h0 hnv rfl h5 (hrd h5) ls hl
  · refine lv_bipush (v := -4) hx hb d_LB_night_11 (by decide) ?_
    have h5 : 5 ≤ F 1 3 := by
      rw [Int32.lt_iff_toInt_lt] at hc
      rw [Int32.le_iff_toInt_le]
      omega
    exact rt_ca C h hr hlk (Or.inl ⟨h5, rfl, rfl, rfl⟩) rfl d_LB_night_13
