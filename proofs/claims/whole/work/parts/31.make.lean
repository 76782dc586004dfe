theorem hd_Wa_make : y_Wa_make.cls ≠ "java/lang/invoke/MethodHandle" ∧ y_Wa_make.cls ≠ "java/lang/invoke/VarHandle" ∧ (parseMethodDescriptor y_Wa_make.desc).map (fun d => d.parameters.length) = some 5 := by decide +kernel
theorem d_Wa_make_0 : decode b_Wa_make 0 = .ok (.iload_n 0, 1) := by decide +kernel
theorem d_Wa_make_1 : decode b_Wa_make 1 = .ok (.tableswitch 123 1 6 #[39, 53, 67, 81, 95, 109], 39) := by decide +kernel
theorem d_Wa_make_40 : decode b_Wa_make 40 = .ok (.new 25, 3) := by decide +kernel
theorem d_Wa_make_43 : decode b_Wa_make 43 = .ok (.dup, 1) := by decide +kernel
theorem d_Wa_make_44 : decode b_Wa_make 44 = .ok (.iload_n 0, 1) := by decide +kernel
theorem d_Wa_make_45 : decode b_Wa_make 45 = .ok (.iload_n 1, 1) := by decide +kernel
theorem d_Wa_make_46 : decode b_Wa_make 46 = .ok (.iload_n 2, 1) := by decide +kernel
theorem d_Wa_make_47 : decode b_Wa_make 47 = .ok (.iload_n 3, 1) := by decide +kernel
theorem d_Wa_make_48 : decode b_Wa_make 48 = .ok (.iload 4, 2) := by decide +kernel
theorem d_Wa_make_50 : decode b_Wa_make 50 = .ok (.invokespecial 27, 3) := by decide +kernel
theorem d_Wa_make_53 : decode b_Wa_make 53 = .ok (.areturn, 1) := by decide +kernel
theorem d_Wa_make_54 : decode b_Wa_make 54 = .ok (.new 30, 3) := by decide +kernel
theorem d_Wa_make_57 : decode b_Wa_make 57 = .ok (.dup, 1) := by decide +kernel
theorem d_Wa_make_58 : decode b_Wa_make 58 = .ok (.iload_n 0, 1) := by decide +kernel
theorem d_Wa_make_59 : decode b_Wa_make 59 = .ok (.iload_n 1, 1) := by decide +kernel
theorem d_Wa_make_60 : decode b_Wa_make 60 = .ok (.iload_n 2, 1) := by decide +kernel
theorem d_Wa_make_61 : decode b_Wa_make 61 = .ok (.iload_n 3, 1) := by decide +kernel
theorem d_Wa_make_62 : decode b_Wa_make 62 = .ok (.iload 4, 2) := by decide +kernel
theorem d_Wa_make_64 : decode b_Wa_make 64 = .ok (.invokespecial 32, 3) := by decide +kernel
theorem d_Wa_make_67 : decode b_Wa_make 67 = .ok (.areturn, 1) := by decide +kernel
theorem d_Wa_make_68 : decode b_Wa_make 68 = .ok (.new 33, 3) := by decide +kernel
theorem d_Wa_make_71 : decode b_Wa_make 71 = .ok (.dup, 1) := by decide +kernel
theorem d_Wa_make_72 : decode b_Wa_make 72 = .ok (.iload_n 0, 1) := by decide +kernel
theorem d_Wa_make_73 : decode b_Wa_make 73 = .ok (.iload_n 1, 1) := by decide +kernel
theorem d_Wa_make_74 : decode b_Wa_make 74 = .ok (.iload_n 2, 1) := by decide +kernel
theorem d_Wa_make_75 : decode b_Wa_make 75 = .ok (.iload_n 3, 1) := by decide +kernel
theorem d_Wa_make_76 : decode b_Wa_make 76 = .ok (.iload 4, 2) := by decide +kernel
theorem d_Wa_make_78 : decode b_Wa_make 78 = .ok (.invokespecial 35, 3) := by decide +kernel
theorem d_Wa_make_81 : decode b_Wa_make 81 = .ok (.areturn, 1) := by decide +kernel
theorem d_Wa_make_82 : decode b_Wa_make 82 = .ok (.new 36, 3) := by decide +kernel
theorem d_Wa_make_85 : decode b_Wa_make 85 = .ok (.dup, 1) := by decide +kernel
theorem d_Wa_make_86 : decode b_Wa_make 86 = .ok (.iload_n 0, 1) := by decide +kernel
theorem d_Wa_make_87 : decode b_Wa_make 87 = .ok (.iload_n 1, 1) := by decide +kernel
theorem d_Wa_make_88 : decode b_Wa_make 88 = .ok (.iload_n 2, 1) := by decide +kernel
theorem d_Wa_make_89 : decode b_Wa_make 89 = .ok (.iload_n 3, 1) := by decide +kernel
theorem d_Wa_make_90 : decode b_Wa_make 90 = .ok (.iload 4, 2) := by decide +kernel
theorem d_Wa_make_92 : decode b_Wa_make 92 = .ok (.invokespecial 38, 3) := by decide +kernel
theorem d_Wa_make_95 : decode b_Wa_make 95 = .ok (.areturn, 1) := by decide +kernel
theorem d_Wa_make_96 : decode b_Wa_make 96 = .ok (.new 39, 3) := by decide +kernel
theorem d_Wa_make_99 : decode b_Wa_make 99 = .ok (.dup, 1) := by decide +kernel
theorem d_Wa_make_100 : decode b_Wa_make 100 = .ok (.iload_n 0, 1) := by decide +kernel
theorem d_Wa_make_101 : decode b_Wa_make 101 = .ok (.iload_n 1, 1) := by decide +kernel
theorem d_Wa_make_102 : decode b_Wa_make 102 = .ok (.iload_n 2, 1) := by decide +kernel
theorem d_Wa_make_103 : decode b_Wa_make 103 = .ok (.iload_n 3, 1) := by decide +kernel
theorem d_Wa_make_104 : decode b_Wa_make 104 = .ok (.iload 4, 2) := by decide +kernel
theorem d_Wa_make_106 : decode b_Wa_make 106 = .ok (.invokespecial 41, 3) := by decide +kernel
theorem d_Wa_make_109 : decode b_Wa_make 109 = .ok (.areturn, 1) := by decide +kernel
theorem d_Wa_make_110 : decode b_Wa_make 110 = .ok (.new 42, 3) := by decide +kernel
theorem d_Wa_make_113 : decode b_Wa_make 113 = .ok (.dup, 1) := by decide +kernel
theorem d_Wa_make_114 : decode b_Wa_make 114 = .ok (.iload_n 0, 1) := by decide +kernel
theorem d_Wa_make_115 : decode b_Wa_make 115 = .ok (.iload_n 1, 1) := by decide +kernel
theorem d_Wa_make_116 : decode b_Wa_make 116 = .ok (.iload_n 2, 1) := by decide +kernel
theorem d_Wa_make_117 : decode b_Wa_make 117 = .ok (.iload_n 3, 1) := by decide +kernel
theorem d_Wa_make_118 : decode b_Wa_make 118 = .ok (.iload 4, 2) := by decide +kernel
theorem d_Wa_make_120 : decode b_Wa_make 120 = .ok (.invokespecial 44, 3) := by decide +kernel
theorem d_Wa_make_123 : decode b_Wa_make 123 = .ok (.areturn, 1) := by decide +kernel
theorem d_Wa_make_124 : decode b_Wa_make 124 = .ok (.new 8, 3) := by decide +kernel
theorem d_Wa_make_127 : decode b_Wa_make 127 = .ok (.dup, 1) := by decide +kernel
theorem d_Wa_make_128 : decode b_Wa_make 128 = .ok (.iload_n 0, 1) := by decide +kernel
theorem d_Wa_make_129 : decode b_Wa_make 129 = .ok (.iload_n 1, 1) := by decide +kernel
theorem d_Wa_make_130 : decode b_Wa_make 130 = .ok (.iload_n 2, 1) := by decide +kernel
theorem d_Wa_make_131 : decode b_Wa_make 131 = .ok (.iload_n 3, 1) := by decide +kernel
theorem d_Wa_make_132 : decode b_Wa_make 132 = .ok (.iload 4, 2) := by decide +kernel
theorem d_Wa_make_134 : decode b_Wa_make 134 = .ok (.invokespecial 45, 3) := by decide +kernel
theorem d_Wa_make_137 : decode b_Wa_make 137 = .ok (.areturn, 1) := by decide +kernel
def clsOf (k : Int32) : Nat := if k = 1 then 5 else if k = 2 then 2 else if k = 3 then 8 else if k = 4 then 3 else if k = 5 then 0 else if k = 6 then 9 else 10
def rmM : Room := { frames := 5, cells := 1, slots := 5, locals := 200 }
set_option maxHeartbeats 4000000 in
theorem c_Wa_make (l : Launch) (dC : Nat → ClassId) (dI : Nat → Nat → Nat) (sz : Nat) (v0 v1 v2 v3 v4 : Int32) : Met l y_Wa_make (Cond.code y_Wa_make b_Wa_make 5 (some (.object "LanternBridge$Walker")) :: WT) rmM (va_Pc [.int v0, .int v1, .int v2, .int v3, .int v4] (fun U => U.heap.size = sz ∧ va_K (dC, dI) CL [] U)) (va_Qr (fun (_ : Unit) => True) (fun _ a t => va_P (dC, dI) CL (yX (clsOf v0) a (wv v0 v1 v2 v3 v4)) t.heap ∧ va_K (dC, dI) CL [] t ∧ sz ≤ a) (fun q => sz ≤ q)) 1 5 (fun q => sz ≤ q) := by
  refine Met.ofW (cc := b_Wa_make) (maxL := 5) (ret := some (.object "LanternBridge$Walker")) (by decide) rfl ?_
  intro p e s m args below meth c s₁ B hml hv
  obtain ⟨rfl, hsz, hK⟩ := hv
  have hx := B.exec
  have hb := B.bytes
  have hr := B.returns
  have hts := atoms_spec (ws := Cond.code y_Wa_make b_Wa_make 5 (some (.object "LanternBridge$Walker")) :: WT) B.pre
  have hT : ∀ w ∈ WT, w.before _ s = true := fun w hw => hts w (List.mem_cons_of_mem _ hw)
  have hown : s.vm.findClass "LanternBridge$Walker" = some m.cls := findClass_of_methodNamed B.named
  have hlk := B.notSynchronized
  subst hsz
  have hA : ∀ q : Nat, s.heap.size ≤ q → (fun q : Nat => s.heap.size ≤ q) q := fun _ h => h
  have hS : va_S (fun q : Nat => s.heap.size ≤ q) s.heap s.heap [] := va_S.rf
  have hP : va_P (dC, dI) CL [] s.heap := fun k q h => by simp at h
  have hD : va_D (fun q : Nat => s.heap.size ≤ q) [] := ⟨fun i j p q h => by simp at h, fun k q h => by simp at h⟩
  obtain ⟨ls, hE, hl⟩ := en_ls m [.int v0, .int v1, .int v2, .int v3, .int v4] (n := 5) (Nat.le_of_ble_eq_true rfl)
  rw [hE]
  have hl : lv_has ls 5 [(0, .int v0), (1, .int v1), (2, .int v2), (3, .int v3), (4, .int v4)] := hl
  refine lv_iload_n hx hb d_Wa_make_0 rfl (lv_at hl 0 rfl) ?_
  by_cases hs0 : v0 = 1
  · have hcl : clsOf v0 = 5 := by rw [hs0]; decide
    refine lv_tableIn (tgt := 40) (off := 39) hx hb d_Wa_make_1 (by rw [hs0]; decide) (by rw [hs0]; decide) (by rw [hs0]; decide) (by decide) ?_
    refine va_new (ci := 5) (fs := [.int 0, .int 0, .int 0, .int 0, .int 0]) (C := R_Qu) (T := F_Qu) (N := 5) hx hb hT uw_Qu ty_Qu ok_Qu hown (hT _ kl_Wa_25) (hT _ ia_Qu) (hT _ ini_Qu) hK hP hD hS hA rfl (fun j hj => by rcases (show j = 0 ∨ j = 1 ∨ j = 2 ∨ j = 3 ∨ j = 4 by omega) with rfl | rfl | rfl | rfl | rfl <;> rfl) (Nat.le_of_ble_eq_true rfl) (Nat.le_of_ble_eq_true rfl) d_Wa_make_40 (fun q H hP hD hS => ?_)
    have hP : va_P (dC, dI) CL (yX 5 q (fun _ => 0)) H := hP
    have hD : va_D (fun q : Nat => s.heap.size ≤ q) (yX 5 q (fun _ => 0)) := hD
    have hAq : s.heap.size ≤ q := hD.2 0 _ rfl
    have hFr : ∀ q1, va_A (yX 5 q (fun _ => 0)) H.size q1 → s.heap.size ≤ q1 := fun q1 h => by
      rcases h with ⟨k, e, hk⟩ | h
      · exact hD.2 k _ hk
      · exact Nat.le_trans hS.1 h
    refine lv_dup hx hb d_Wa_make_43 rfl ?_
    refine lv_iload_n hx hb d_Wa_make_44 rfl (lv_at hl 0 rfl) ?_
    refine lv_iload_n hx hb d_Wa_make_45 rfl (lv_at hl 1 rfl) ?_
    refine lv_iload_n hx hb d_Wa_make_46 rfl (lv_at hl 2 rfl) ?_
    refine lv_iload_n hx hb d_Wa_make_47 rfl (lv_at hl 3 rfl) ?_
    refine lv_iload hx hb d_Wa_make_48 (lv_at hl 4 rfl) ?_
    refine va_callv (va_runI (As := [.int v0, .int v1, .int v2, .int v3, .int v4]) (rest := [.ref q]) ⟨hx, hb, hml, hown, hT⟩ (c_Qu_init l dC dI (ci := 5) (by decide) q H.size (fun _ => 0) v0 v1 v2 v3 v4) ⟨cbW 5 hT cd_Qu_init rfl rfl ini_Qu ml_Wa_27 hd_Qu_init ⟨Nat.le_of_ble_eq_true rfl, Nat.le_of_ble_eq_true rfl⟩, rfl, hT _ im_Qu_init⟩ ⟨fun a U g mk q => ⟨q.1, q.2.1, q.2.2.1, va_K.moved (u := U) (U := U.calling g mk a) (Vm.Alike.refl U.vm) q.2.2.2.1, q.2.2.2.2⟩, fun U hU hW => ⟨rfl, by rw [hU], by rw [hU]; exact hP, va_K.moved hW.alike hK, hD.weaken (fun _ _ _ _ => trivial)⟩⟩ rfl rfl hl.1 rfl (lv_room (Nat.le_of_ble_eq_true rfl)) d_Wa_make_50 ⟨Nat.le_of_ble_eq_true rfl, Nat.le_of_ble_eq_true rfl⟩) hS (fun q _ h => hFr q h) hFr (fun u t H1 locs1 ht hvm hw hB hz1 hk1 hS => ?_)
    cases hw
    have hP1 : va_P (dC, dI) CL (yX (clsOf v0) q (wv v0 v1 v2 v3 v4)) H1 := by rw [← ht, hcl]; exact hB.1
    exact W.aret hx hb hr (Or.inl ⟨_, rfl⟩) (Or.inr ⟨q, rfl⟩) (fun t2 ht2 hW2 => ⟨⟨(), q, rfl, trivial, by rw [ht2]; exact hP1, va_K.moved hW2.alike hK, hAq⟩, hS.F ht2⟩) hS.2.2 d_Wa_make_53 hlk
  · skip
    by_cases hs1 : v0 = 2
    · have hcl : clsOf v0 = 2 := by rw [hs1]; decide
      refine lv_tableIn (tgt := 54) (off := 53) hx hb d_Wa_make_1 (by rw [hs1]; decide) (by rw [hs1]; decide) (by rw [hs1]; decide) (by decide) ?_
      refine va_new (ci := 2) (fs := [.int 0, .int 0, .int 0, .int 0, .int 0]) (C := R_La) (T := F_La) (N := 5) hx hb hT uw_La ty_La ok_La hown (hT _ kl_Wa_30) (hT _ ia_La) (hT _ ini_La) hK hP hD hS hA rfl (fun j hj => by rcases (show j = 0 ∨ j = 1 ∨ j = 2 ∨ j = 3 ∨ j = 4 by omega) with rfl | rfl | rfl | rfl | rfl <;> rfl) (Nat.le_of_ble_eq_true rfl) (Nat.le_of_ble_eq_true rfl) d_Wa_make_54 (fun q H hP hD hS => ?_)
      have hP : va_P (dC, dI) CL (yX 2 q (fun _ => 0)) H := hP
      have hD : va_D (fun q : Nat => s.heap.size ≤ q) (yX 2 q (fun _ => 0)) := hD
      have hAq : s.heap.size ≤ q := hD.2 0 _ rfl
      have hFr : ∀ q1, va_A (yX 2 q (fun _ => 0)) H.size q1 → s.heap.size ≤ q1 := fun q1 h => by
        rcases h with ⟨k, e, hk⟩ | h
        · exact hD.2 k _ hk
        · exact Nat.le_trans hS.1 h
      refine lv_dup hx hb d_Wa_make_57 rfl ?_
      refine lv_iload_n hx hb d_Wa_make_58 rfl (lv_at hl 0 rfl) ?_
      refine lv_iload_n hx hb d_Wa_make_59 rfl (lv_at hl 1 rfl) ?_
      refine lv_iload_n hx hb d_Wa_make_60 rfl (lv_at hl 2 rfl) ?_
      refine lv_iload_n hx hb d_Wa_make_61 rfl (lv_at hl 3 rfl) ?_
      refine lv_iload hx hb d_Wa_make_62 (lv_at hl 4 rfl) ?_
      refine va_callv (va_runI (As := [.int v0, .int v1, .int v2, .int v3, .int v4]) (rest := [.ref q]) ⟨hx, hb, hml, hown, hT⟩ (c_La_init l dC dI (ci := 2) (by decide) q H.size (fun _ => 0) v0 v1 v2 v3 v4) ⟨cbW 5 hT cd_La_init rfl rfl ini_La ml_Wa_32 hd_La_init ⟨Nat.le_of_ble_eq_true rfl, Nat.le_of_ble_eq_true rfl⟩, rfl, hT _ im_La_init⟩ ⟨fun a U g mk q => ⟨q.1, q.2.1, q.2.2.1, va_K.moved (u := U) (U := U.calling g mk a) (Vm.Alike.refl U.vm) q.2.2.2.1, q.2.2.2.2⟩, fun U hU hW => ⟨rfl, by rw [hU], by rw [hU]; exact hP, va_K.moved hW.alike hK, hD.weaken (fun _ _ _ _ => trivial)⟩⟩ rfl rfl hl.1 rfl (lv_room (Nat.le_of_ble_eq_true rfl)) d_Wa_make_64 ⟨Nat.le_of_ble_eq_true rfl, Nat.le_of_ble_eq_true rfl⟩) hS (fun q _ h => hFr q h) hFr (fun u t H1 locs1 ht hvm hw hB hz1 hk1 hS => ?_)
      cases hw
      have hP1 : va_P (dC, dI) CL (yX (clsOf v0) q (wv v0 v1 v2 v3 v4)) H1 := by rw [← ht, hcl]; exact hB.1
      exact W.aret hx hb hr (Or.inl ⟨_, rfl⟩) (Or.inr ⟨q, rfl⟩) (fun t2 ht2 hW2 => ⟨⟨(), q, rfl, trivial, by rw [ht2]; exact hP1, va_K.moved hW2.alike hK, hAq⟩, hS.F ht2⟩) hS.2.2 d_Wa_make_67 hlk
    · skip
      by_cases hs2 : v0 = 3
      · have hcl : clsOf v0 = 8 := by rw [hs2]; decide
        refine lv_tableIn (tgt := 68) (off := 67) hx hb d_Wa_make_1 (by rw [hs2]; decide) (by rw [hs2]; decide) (by rw [hs2]; decide) (by decide) ?_
        refine va_new (ci := 8) (fs := [.int 0, .int 0, .int 0, .int 0, .int 0]) (C := R_Ti) (T := F_Ti) (N := 5) hx hb hT uw_Ti ty_Ti ok_Ti hown (hT _ kl_Wa_33) (hT _ ia_Ti) (hT _ ini_Ti) hK hP hD hS hA rfl (fun j hj => by rcases (show j = 0 ∨ j = 1 ∨ j = 2 ∨ j = 3 ∨ j = 4 by omega) with rfl | rfl | rfl | rfl | rfl <;> rfl) (Nat.le_of_ble_eq_true rfl) (Nat.le_of_ble_eq_true rfl) d_Wa_make_68 (fun q H hP hD hS => ?_)
        have hP : va_P (dC, dI) CL (yX 8 q (fun _ => 0)) H := hP
        have hD : va_D (fun q : Nat => s.heap.size ≤ q) (yX 8 q (fun _ => 0)) := hD
        have hAq : s.heap.size ≤ q := hD.2 0 _ rfl
        have hFr : ∀ q1, va_A (yX 8 q (fun _ => 0)) H.size q1 → s.heap.size ≤ q1 := fun q1 h => by
          rcases h with ⟨k, e, hk⟩ | h
          · exact hD.2 k _ hk
          · exact Nat.le_trans hS.1 h
        refine lv_dup hx hb d_Wa_make_71 rfl ?_
        refine lv_iload_n hx hb d_Wa_make_72 rfl (lv_at hl 0 rfl) ?_
        refine lv_iload_n hx hb d_Wa_make_73 rfl (lv_at hl 1 rfl) ?_
        refine lv_iload_n hx hb d_Wa_make_74 rfl (lv_at hl 2 rfl) ?_
        refine lv_iload_n hx hb d_Wa_make_75 rfl (lv_at hl 3 rfl) ?_
        refine lv_iload hx hb d_Wa_make_76 (lv_at hl 4 rfl) ?_
        refine va_callv (va_runI (As := [.int v0, .int v1, .int v2, .int v3, .int v4]) (rest := [.ref q]) ⟨hx, hb, hml, hown, hT⟩ (c_Ti_init l dC dI (ci := 8) (by decide) q H.size (fun _ => 0) v0 v1 v2 v3 v4) ⟨cbW 5 hT cd_Ti_init rfl rfl ini_Ti ml_Wa_35 hd_Ti_init ⟨Nat.le_of_ble_eq_true rfl, Nat.le_of_ble_eq_true rfl⟩, rfl, hT _ im_Ti_init⟩ ⟨fun a U g mk q => ⟨q.1, q.2.1, q.2.2.1, va_K.moved (u := U) (U := U.calling g mk a) (Vm.Alike.refl U.vm) q.2.2.2.1, q.2.2.2.2⟩, fun U hU hW => ⟨rfl, by rw [hU], by rw [hU]; exact hP, va_K.moved hW.alike hK, hD.weaken (fun _ _ _ _ => trivial)⟩⟩ rfl rfl hl.1 rfl (lv_room (Nat.le_of_ble_eq_true rfl)) d_Wa_make_78 ⟨Nat.le_of_ble_eq_true rfl, Nat.le_of_ble_eq_true rfl⟩) hS (fun q _ h => hFr q h) hFr (fun u t H1 locs1 ht hvm hw hB hz1 hk1 hS => ?_)
        cases hw
        have hP1 : va_P (dC, dI) CL (yX (clsOf v0) q (wv v0 v1 v2 v3 v4)) H1 := by rw [← ht, hcl]; exact hB.1
        exact W.aret hx hb hr (Or.inl ⟨_, rfl⟩) (Or.inr ⟨q, rfl⟩) (fun t2 ht2 hW2 => ⟨⟨(), q, rfl, trivial, by rw [ht2]; exact hP1, va_K.moved hW2.alike hK, hAq⟩, hS.F ht2⟩) hS.2.2 d_Wa_make_81 hlk
      · skip
        by_cases hs3 : v0 = 4
        · have hcl : clsOf v0 = 3 := by rw [hs3]; decide
          refine lv_tableIn (tgt := 82) (off := 81) hx hb d_Wa_make_1 (by rw [hs3]; decide) (by rw [hs3]; decide) (by rw [hs3]; decide) (by decide) ?_
          refine va_new (ci := 3) (fs := [.int 0, .int 0, .int 0, .int 0, .int 0]) (C := R_Le) (T := F_Le) (N := 5) hx hb hT uw_Le ty_Le ok_Le hown (hT _ kl_Wa_36) (hT _ ia_Le) (hT _ ini_Le) hK hP hD hS hA rfl (fun j hj => by rcases (show j = 0 ∨ j = 1 ∨ j = 2 ∨ j = 3 ∨ j = 4 by omega) with rfl | rfl | rfl | rfl | rfl <;> rfl) (Nat.le_of_ble_eq_true rfl) (Nat.le_of_ble_eq_true rfl) d_Wa_make_82 (fun q H hP hD hS => ?_)
          have hP : va_P (dC, dI) CL (yX 3 q (fun _ => 0)) H := hP
          have hD : va_D (fun q : Nat => s.heap.size ≤ q) (yX 3 q (fun _ => 0)) := hD
          have hAq : s.heap.size ≤ q := hD.2 0 _ rfl
          have hFr : ∀ q1, va_A (yX 3 q (fun _ => 0)) H.size q1 → s.heap.size ≤ q1 := fun q1 h => by
            rcases h with ⟨k, e, hk⟩ | h
            · exact hD.2 k _ hk
            · exact Nat.le_trans hS.1 h
          refine lv_dup hx hb d_Wa_make_85 rfl ?_
          refine lv_iload_n hx hb d_Wa_make_86 rfl (lv_at hl 0 rfl) ?_
          refine lv_iload_n hx hb d_Wa_make_87 rfl (lv_at hl 1 rfl) ?_
          refine lv_iload_n hx hb d_Wa_make_88 rfl (lv_at hl 2 rfl) ?_
          refine lv_iload_n hx hb d_Wa_make_89 rfl (lv_at hl 3 rfl) ?_
          refine lv_iload hx hb d_Wa_make_90 (lv_at hl 4 rfl) ?_
          refine va_callv (va_runI (As := [.int v0, .int v1, .int v2, .int v3, .int v4]) (rest := [.ref q]) ⟨hx, hb, hml, hown, hT⟩ (c_Le_init l dC dI (ci := 3) (by decide) q H.size (fun _ => 0) v0 v1 v2 v3 v4) ⟨cbW 5 hT cd_Le_init rfl rfl ini_Le ml_Wa_38 hd_Le_init ⟨Nat.le_of_ble_eq_true rfl, Nat.le_of_ble_eq_true rfl⟩, rfl, hT _ im_Le_init⟩ ⟨fun a U g mk q => ⟨q.1, q.2.1, q.2.2.1, va_K.moved (u := U) (U := U.calling g mk a) (Vm.Alike.refl U.vm) q.2.2.2.1, q.2.2.2.2⟩, fun U hU hW => ⟨rfl, by rw [hU], by rw [hU]; exact hP, va_K.moved hW.alike hK, hD.weaken (fun _ _ _ _ => trivial)⟩⟩ rfl rfl hl.1 rfl (lv_room (Nat.le_of_ble_eq_true rfl)) d_Wa_make_92 ⟨Nat.le_of_ble_eq_true rfl, Nat.le_of_ble_eq_true rfl⟩) hS (fun q _ h => hFr q h) hFr (fun u t H1 locs1 ht hvm hw hB hz1 hk1 hS => ?_)
          cases hw
          have hP1 : va_P (dC, dI) CL (yX (clsOf v0) q (wv v0 v1 v2 v3 v4)) H1 := by rw [← ht, hcl]; exact hB.1
          exact W.aret hx hb hr (Or.inl ⟨_, rfl⟩) (Or.inr ⟨q, rfl⟩) (fun t2 ht2 hW2 => ⟨⟨(), q, rfl, trivial, by rw [ht2]; exact hP1, va_K.moved hW2.alike hK, hAq⟩, hS.F ht2⟩) hS.2.2 d_Wa_make_95 hlk
        · skip
          by_cases hs4 : v0 = 5
          · have hcl : clsOf v0 = 0 := by rw [hs4]; decide
            refine lv_tableIn (tgt := 96) (off := 95) hx hb d_Wa_make_1 (by rw [hs4]; decide) (by rw [hs4]; decide) (by rw [hs4]; decide) (by decide) ?_
            refine va_new (ci := 0) (fs := [.int 0, .int 0, .int 0, .int 0, .int 0]) (C := R_Ca) (T := F_Ca) (N := 5) hx hb hT uw_Ca ty_Ca ok_Ca hown (hT _ kl_Wa_39) (hT _ ia_Ca) (hT _ ini_Ca) hK hP hD hS hA rfl (fun j hj => by rcases (show j = 0 ∨ j = 1 ∨ j = 2 ∨ j = 3 ∨ j = 4 by omega) with rfl | rfl | rfl | rfl | rfl <;> rfl) (Nat.le_of_ble_eq_true rfl) (Nat.le_of_ble_eq_true rfl) d_Wa_make_96 (fun q H hP hD hS => ?_)
            have hP : va_P (dC, dI) CL (yX 0 q (fun _ => 0)) H := hP
            have hD : va_D (fun q : Nat => s.heap.size ≤ q) (yX 0 q (fun _ => 0)) := hD
            have hAq : s.heap.size ≤ q := hD.2 0 _ rfl
            have hFr : ∀ q1, va_A (yX 0 q (fun _ => 0)) H.size q1 → s.heap.size ≤ q1 := fun q1 h => by
              rcases h with ⟨k, e, hk⟩ | h
              · exact hD.2 k _ hk
              · exact Nat.le_trans hS.1 h
            refine lv_dup hx hb d_Wa_make_99 rfl ?_
            refine lv_iload_n hx hb d_Wa_make_100 rfl (lv_at hl 0 rfl) ?_
            refine lv_iload_n hx hb d_Wa_make_101 rfl (lv_at hl 1 rfl) ?_
            refine lv_iload_n hx hb d_Wa_make_102 rfl (lv_at hl 2 rfl) ?_
            refine lv_iload_n hx hb d_Wa_make_103 rfl (lv_at hl 3 rfl) ?_
            refine lv_iload hx hb d_Wa_make_104 (lv_at hl 4 rfl) ?_
            refine va_callv (va_runI (As := [.int v0, .int v1, .int v2, .int v3, .int v4]) (rest := [.ref q]) ⟨hx, hb, hml, hown, hT⟩ (c_Ca_init l dC dI (ci := 0) (by decide) q H.size (fun _ => 0) v0 v1 v2 v3 v4) ⟨cbW 5 hT cd_Ca_init rfl rfl ini_Ca ml_Wa_41 hd_Ca_init ⟨Nat.le_of_ble_eq_true rfl, Nat.le_of_ble_eq_true rfl⟩, rfl, hT _ im_Ca_init⟩ ⟨fun a U g mk q => ⟨q.1, q.2.1, q.2.2.1, va_K.moved (u := U) (U := U.calling g mk a) (Vm.Alike.refl U.vm) q.2.2.2.1, q.2.2.2.2⟩, fun U hU hW => ⟨rfl, by rw [hU], by rw [hU]; exact hP, va_K.moved hW.alike hK, hD.weaken (fun _ _ _ _ => trivial)⟩⟩ rfl rfl hl.1 rfl (lv_room (Nat.le_of_ble_eq_true rfl)) d_Wa_make_106 ⟨Nat.le_of_ble_eq_true rfl, Nat.le_of_ble_eq_true rfl⟩) hS (fun q _ h => hFr q h) hFr (fun u t H1 locs1 ht hvm hw hB hz1 hk1 hS => ?_)
            cases hw
            have hP1 : va_P (dC, dI) CL (yX (clsOf v0) q (wv v0 v1 v2 v3 v4)) H1 := by rw [← ht, hcl]; exact hB.1
            exact W.aret hx hb hr (Or.inl ⟨_, rfl⟩) (Or.inr ⟨q, rfl⟩) (fun t2 ht2 hW2 => ⟨⟨(), q, rfl, trivial, by rw [ht2]; exact hP1, va_K.moved hW2.alike hK, hAq⟩, hS.F ht2⟩) hS.2.2 d_Wa_make_109 hlk
          · skip
            by_cases hs5 : v0 = 6
            · have hcl : clsOf v0 = 9 := by rw [hs5]; decide
              refine lv_tableIn (tgt := 110) (off := 109) hx hb d_Wa_make_1 (by rw [hs5]; decide) (by rw [hs5]; decide) (by rw [hs5]; decide) (by decide) ?_
              refine va_new (ci := 9) (fs := [.int 0, .int 0, .int 0, .int 0, .int 0]) (C := R_Tr) (T := F_Tr) (N := 5) hx hb hT uw_Tr ty_Tr ok_Tr hown (hT _ kl_Wa_42) (hT _ ia_Tr) (hT _ ini_Tr) hK hP hD hS hA rfl (fun j hj => by rcases (show j = 0 ∨ j = 1 ∨ j = 2 ∨ j = 3 ∨ j = 4 by omega) with rfl | rfl | rfl | rfl | rfl <;> rfl) (Nat.le_of_ble_eq_true rfl) (Nat.le_of_ble_eq_true rfl) d_Wa_make_110 (fun q H hP hD hS => ?_)
              have hP : va_P (dC, dI) CL (yX 9 q (fun _ => 0)) H := hP
              have hD : va_D (fun q : Nat => s.heap.size ≤ q) (yX 9 q (fun _ => 0)) := hD
              have hAq : s.heap.size ≤ q := hD.2 0 _ rfl
              have hFr : ∀ q1, va_A (yX 9 q (fun _ => 0)) H.size q1 → s.heap.size ≤ q1 := fun q1 h => by
                rcases h with ⟨k, e, hk⟩ | h
                · exact hD.2 k _ hk
                · exact Nat.le_trans hS.1 h
              refine lv_dup hx hb d_Wa_make_113 rfl ?_
              refine lv_iload_n hx hb d_Wa_make_114 rfl (lv_at hl 0 rfl) ?_
              refine lv_iload_n hx hb d_Wa_make_115 rfl (lv_at hl 1 rfl) ?_
              refine lv_iload_n hx hb d_Wa_make_116 rfl (lv_at hl 2 rfl) ?_
              refine lv_iload_n hx hb d_Wa_make_117 rfl (lv_at hl 3 rfl) ?_
              refine lv_iload hx hb d_Wa_make_118 (lv_at hl 4 rfl) ?_
              refine va_callv (va_runI (As := [.int v0, .int v1, .int v2, .int v3, .int v4]) (rest := [.ref q]) ⟨hx, hb, hml, hown, hT⟩ (c_Tr_init l dC dI (ci := 9) (by decide) q H.size (fun _ => 0) v0 v1 v2 v3 v4) ⟨cbW 5 hT cd_Tr_init rfl rfl ini_Tr ml_Wa_44 hd_Tr_init ⟨Nat.le_of_ble_eq_true rfl, Nat.le_of_ble_eq_true rfl⟩, rfl, hT _ im_Tr_init⟩ ⟨fun a U g mk q => ⟨q.1, q.2.1, q.2.2.1, va_K.moved (u := U) (U := U.calling g mk a) (Vm.Alike.refl U.vm) q.2.2.2.1, q.2.2.2.2⟩, fun U hU hW => ⟨rfl, by rw [hU], by rw [hU]; exact hP, va_K.moved hW.alike hK, hD.weaken (fun _ _ _ _ => trivial)⟩⟩ rfl rfl hl.1 rfl (lv_room (Nat.le_of_ble_eq_true rfl)) d_Wa_make_120 ⟨Nat.le_of_ble_eq_true rfl, Nat.le_of_ble_eq_true rfl⟩) hS (fun q _ h => hFr q h) hFr (fun u t H1 locs1 ht hvm hw hB hz1 hk1 hS => ?_)
              cases hw
              have hP1 : va_P (dC, dI) CL (yX (clsOf v0) q (wv v0 v1 v2 v3 v4)) H1 := by rw [← ht, hcl]; exact hB.1
              exact W.aret hx hb hr (Or.inl ⟨_, rfl⟩) (Or.inr ⟨q, rfl⟩) (fun t2 ht2 hW2 => ⟨⟨(), q, rfl, trivial, by rw [ht2]; exact hP1, va_K.moved hW2.alike hK, hAq⟩, hS.F ht2⟩) hS.2.2 d_Wa_make_123 hlk
            · skip
              have hcl : clsOf v0 = 10 := by simp only [clsOf, if_neg hs0, if_neg hs1, if_neg hs2, if_neg hs3, if_neg hs4, if_neg hs5]
              have et0 := tn_ne (v := 1) (by decide) hs0
              have et1 := tn_ne (v := 2) (by decide) hs1
              have et2 := tn_ne (v := 3) (by decide) hs2
              have et3 := tn_ne (v := 4) (by decide) hs3
              have et4 := tn_ne (v := 5) (by decide) hs4
              have et5 := tn_ne (v := 6) (by decide) hs5
              refine lv_tableOut (tgt := 124) hx hb d_Wa_make_1 (by omega) (by decide) ?_
              refine va_new (ci := 10) (fs := [.int 0, .int 0, .int 0, .int 0, .int 0]) (C := R_Wa) (T := F_Wa) (N := 5) hx hb hT uw_Wa ty_Wa ok_Wa hown (hT _ kl_Wa_8) (hT _ ia_Wa) (hT _ ini_Wa) hK hP hD hS hA rfl (fun j hj => by rcases (show j = 0 ∨ j = 1 ∨ j = 2 ∨ j = 3 ∨ j = 4 by omega) with rfl | rfl | rfl | rfl | rfl <;> rfl) (Nat.le_of_ble_eq_true rfl) (Nat.le_of_ble_eq_true rfl) d_Wa_make_124 (fun q H hP hD hS => ?_)
              have hP : va_P (dC, dI) CL (yX 10 q (fun _ => 0)) H := hP
              have hD : va_D (fun q : Nat => s.heap.size ≤ q) (yX 10 q (fun _ => 0)) := hD
              have hAq : s.heap.size ≤ q := hD.2 0 _ rfl
              have hFr : ∀ q1, va_A (yX 10 q (fun _ => 0)) H.size q1 → s.heap.size ≤ q1 := fun q1 h => by
                rcases h with ⟨k, e, hk⟩ | h
                · exact hD.2 k _ hk
                · exact Nat.le_trans hS.1 h
              refine lv_dup hx hb d_Wa_make_127 rfl ?_
              refine lv_iload_n hx hb d_Wa_make_128 rfl (lv_at hl 0 rfl) ?_
              refine lv_iload_n hx hb d_Wa_make_129 rfl (lv_at hl 1 rfl) ?_
              refine lv_iload_n hx hb d_Wa_make_130 rfl (lv_at hl 2 rfl) ?_
              refine lv_iload_n hx hb d_Wa_make_131 rfl (lv_at hl 3 rfl) ?_
              refine lv_iload hx hb d_Wa_make_132 (lv_at hl 4 rfl) ?_
              refine va_callv (va_runI (As := [.int v0, .int v1, .int v2, .int v3, .int v4]) (rest := [.ref q]) ⟨hx, hb, hml, hown, hT⟩ (c_Wa_init l dC dI (ci := 10) (by decide) q H.size (fun _ => 0) v0 v1 v2 v3 v4) ⟨cbW 5 hT cd_Wa_init rfl rfl ini_Wa ml_Wa_45 hd_Wa_init ⟨Nat.le_of_ble_eq_true rfl, Nat.le_of_ble_eq_true rfl⟩, rfl, hT _ im_Wa_init⟩ ⟨fun a U g mk q => ⟨q.1, q.2.1, q.2.2.1, va_K.moved (u := U) (U := U.calling g mk a) (Vm.Alike.refl U.vm) q.2.2.2.1, q.2.2.2.2⟩, fun U hU hW => ⟨rfl, by rw [hU], by rw [hU]; exact hP, va_K.moved hW.alike hK, hD.weaken (fun _ _ _ _ => trivial)⟩⟩ rfl rfl hl.1 rfl (lv_room (Nat.le_of_ble_eq_true rfl)) d_Wa_make_134 ⟨Nat.le_of_ble_eq_true rfl, Nat.le_of_ble_eq_true rfl⟩) hS (fun q _ h => hFr q h) hFr (fun u t H1 locs1 ht hvm hw hB hz1 hk1 hS => ?_)
              cases hw
              have hP1 : va_P (dC, dI) CL (yX (clsOf v0) q (wv v0 v1 v2 v3 v4)) H1 := by rw [← ht, hcl]; exact hB.1
              exact W.aret hx hb hr (Or.inl ⟨_, rfl⟩) (Or.inr ⟨q, rfl⟩) (fun t2 ht2 hW2 => ⟨⟨(), q, rfl, trivial, by rw [ht2]; exact hP1, va_K.moved hW2.alike hK, hAq⟩, hS.F ht2⟩) hS.2.2 d_Wa_make_137 hlk
