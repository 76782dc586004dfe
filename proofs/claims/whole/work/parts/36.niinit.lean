theorem hd_Ni_init : y_Ni_init.cls ≠ "java/lang/invoke/MethodHandle" ∧ y_Ni_init.cls ≠ "java/lang/invoke/VarHandle" ∧ (parseMethodDescriptor y_Ni_init.desc).map (fun d => d.parameters.length) = some 2 := by decide +kernel
theorem d_Ni_init_0 : decode b_Ni_init 0 = .ok (.aload_n 0, 1) := by decide +kernel
theorem d_Ni_init_1 : decode b_Ni_init 1 = .ok (.invokespecial 1, 3) := by decide +kernel
theorem d_Ni_init_4 : decode b_Ni_init 4 = .ok (.aload_n 0, 1) := by decide +kernel
theorem d_Ni_init_5 : decode b_Ni_init 5 = .ok (.iconst 2, 1) := by decide +kernel
theorem d_Ni_init_6 : decode b_Ni_init 6 = .ok (.putfield 7, 3) := by decide +kernel
theorem d_Ni_init_9 : decode b_Ni_init 9 = .ok (.aload_n 0, 1) := by decide +kernel
theorem d_Ni_init_10 : decode b_Ni_init 10 = .ok (.bipush 99, 2) := by decide +kernel
theorem d_Ni_init_12 : decode b_Ni_init 12 = .ok (.putfield 13, 3) := by decide +kernel
theorem d_Ni_init_15 : decode b_Ni_init 15 = .ok (.aload_n 0, 1) := by decide +kernel
theorem d_Ni_init_16 : decode b_Ni_init 16 = .ok (.iconst 0, 1) := by decide +kernel
theorem d_Ni_init_17 : decode b_Ni_init 17 = .ok (.putfield 16, 3) := by decide +kernel
theorem d_Ni_init_20 : decode b_Ni_init 20 = .ok (.aload_n 0, 1) := by decide +kernel
theorem d_Ni_init_21 : decode b_Ni_init 21 = .ok (.bipush 10, 2) := by decide +kernel
theorem d_Ni_init_23 : decode b_Ni_init 23 = .ok (.newarray .int, 2) := by decide +kernel
theorem d_Ni_init_25 : decode b_Ni_init 25 = .ok (.putfield 19, 3) := by decide +kernel
theorem d_Ni_init_28 : decode b_Ni_init 28 = .ok (.aload_n 0, 1) := by decide +kernel
theorem d_Ni_init_29 : decode b_Ni_init 29 = .ok (.bipush 10, 2) := by decide +kernel
theorem d_Ni_init_31 : decode b_Ni_init 31 = .ok (.newarray .int, 2) := by decide +kernel
theorem d_Ni_init_33 : decode b_Ni_init 33 = .ok (.putfield 23, 3) := by decide +kernel
theorem d_Ni_init_36 : decode b_Ni_init 36 = .ok (.aload_n 0, 1) := by decide +kernel
theorem d_Ni_init_37 : decode b_Ni_init 37 = .ok (.bipush 10, 2) := by decide +kernel
theorem d_Ni_init_39 : decode b_Ni_init 39 = .ok (.newarray .int, 2) := by decide +kernel
theorem d_Ni_init_41 : decode b_Ni_init 41 = .ok (.putfield 26, 3) := by decide +kernel
theorem d_Ni_init_44 : decode b_Ni_init 44 = .ok (.iconst 0, 1) := by decide +kernel
theorem d_Ni_init_45 : decode b_Ni_init 45 = .ok (.iload_n 2, 1) := by decide +kernel
theorem d_Ni_init_46 : decode b_Ni_init 46 = .ok (.aload_n 1, 1) := by decide +kernel
theorem d_Ni_init_47 : decode b_Ni_init 47 = .ok (.arraylength, 1) := by decide +kernel
theorem d_Ni_init_48 : decode b_Ni_init 48 = .ok (.invokestatic 29, 3) := by decide +kernel
theorem d_Ni_init_51 : decode b_Ni_init 51 = .ok (.invokestatic 35, 3) := by decide +kernel
theorem d_Ni_init_54 : decode b_Ni_init 54 = .ok (.istore_n 3, 1) := by decide +kernel
theorem d_Ni_init_55 : decode b_Ni_init 55 = .ok (.aload_n 0, 1) := by decide +kernel
theorem d_Ni_init_56 : decode b_Ni_init 56 = .ok (.iload_n 3, 1) := by decide +kernel
theorem d_Ni_init_57 : decode b_Ni_init 57 = .ok (.newarray .int, 2) := by decide +kernel
theorem d_Ni_init_59 : decode b_Ni_init 59 = .ok (.putfield 38, 3) := by decide +kernel
theorem d_Ni_init_62 : decode b_Ni_init 62 = .ok (.aload_n 1, 1) := by decide +kernel
theorem d_Ni_init_63 : decode b_Ni_init 63 = .ok (.iconst 0, 1) := by decide +kernel
theorem d_Ni_init_64 : decode b_Ni_init 64 = .ok (.aload_n 0, 1) := by decide +kernel
theorem d_Ni_init_65 : decode b_Ni_init 65 = .ok (.getfield 38, 3) := by decide +kernel
theorem d_Ni_init_68 : decode b_Ni_init 68 = .ok (.iconst 0, 1) := by decide +kernel
theorem d_Ni_init_69 : decode b_Ni_init 69 = .ok (.iload_n 3, 1) := by decide +kernel
theorem d_Ni_init_70 : decode b_Ni_init 70 = .ok (.invokestatic 41, 3) := by decide +kernel
theorem d_Ni_init_73 : decode b_Ni_init 73 = .ok (.aload_n 0, 1) := by decide +kernel
theorem d_Ni_init_74 : decode b_Ni_init 74 = .ok (.iload_n 3, 1) := by decide +kernel
theorem d_Ni_init_75 : decode b_Ni_init 75 = .ok (.newarray .int, 2) := by decide +kernel
theorem d_Ni_init_77 : decode b_Ni_init 77 = .ok (.putfield 47, 3) := by decide +kernel
theorem d_Ni_init_80 : decode b_Ni_init 80 = .ok (.return_, 1) := by decide +kernel
theorem cI_eq {D : va_G} {cl : List vw_C} {tys : List (ClassId × FieldType)} {s : State} {i j : Nat} {c1 c2 : ClassId} (hK : va_K D cl tys s) (h1 : tys[i]? = some (c1, .int)) (h2 : tys[j]? = some (c2, .int)) : c2 = c1 := by
  have a1 : s.vm.findClass ("[" ++ FieldType.int.toString) = some c1 := (hK.2 i _ h1).2
  have a2 : s.vm.findClass ("[" ++ FieldType.int.toString) = some c2 := (hK.2 j _ h2).2
  exact Option.some.inj (a2.symm.trans a1)
theorem jm_ok (v : Int32) {L : Nat} (hL : L ≤ 100) : ¬ jmax 0 (jmin v (nI L)) < 0 ∧ (jmax 0 (jmin v (nI L))).toNatClampNeg ≤ L := by
  have z0 : ¬ (0 : Int32) < 0 ∧ (0 : Int32).toNatClampNeg ≤ L := ⟨by decide, by rw [show (0 : Int32).toNatClampNeg = 0 from by decide]; exact Nat.zero_le _⟩
  unfold jmax jmin
  by_cases h1 : nI L < v
  · rw [if_pos h1]
    by_cases h2 : (0 : Int32) < nI L
    · rw [if_pos h2]; exact ⟨nI_pos (by omega), by rw [nI_clamp (by omega)]; exact Nat.le_refl _⟩
    · rw [if_neg h2]; exact z0
  · rw [if_neg h1]
    by_cases h2 : (0 : Int32) < v
    · rw [if_pos h2]
      have h3 : ¬ v < 0 := by
        rw [Int32.lt_iff_toInt_lt] at h2 ⊢
        rw [Int32.toInt_zero] at h2 ⊢
        omega
      obtain ⟨j, hj, rfl⟩ := nI_of h3
      refine ⟨h3, ?_⟩
      rw [nI_clamp hj]
      rw [nI_ltI (by omega) hj] at h1
      omega
    · rw [if_neg h2]; exact z0
def nI0 : Nat → Int32 := fun k => if k = 0 then 2 else if k = 1 then 99 else 0
def nR0 (f : Nat → Int32) (tl : Nat) : Nat → Nat → Int32 := fun k => if k = 3 then va_cpy f (fun _ => 0) 0 0 tl else fun _ => 0
def nTl (v : Int32) (L : Nat) : Nat := (jmax 0 (jmin v (nI L))).toNatClampNeg
def rmN : Room := { frames := 3, cells := 5, slots := 230, locals := 120 }
abbrev nW0 (a tp : Nat) (cI : ClassId) (L : Nat) (f : Nat → Int32) : va_W := [(a, .inr (4, [.int 0, .int 0, .int 0, .null, .int 0, .null, .int 0, .null, .null, .null, .int 0])), (tp, .inl (cI, L, .inl f))]
abbrev nPi (dC : Nat → ClassId) (dI : Nat → Nat → Nat) (a tp : Nat) (cI : ClassId) (L : Nat) (f : Nat → Int32) (sz : Nat) : State → Prop := fun U => U.heap.size = sz ∧ va_P (dC, dI) CL (nW0 a tp cI L f) U.heap ∧ va_K (dC, dI) CL [(cI, .int)] U ∧ va_D (fun _ => True) (nW0 a tp cI L f)
abbrev nBi (dC : Nat → ClassId) (dI : Nat → Nat → Nat) (a tp : Nat) (cI : ClassId) (L : Nat) (f : Nat → Int32) (tl : Nat) (A : Nat → Prop) : (Nat → Nat) → State → Prop := fun ad t => ad 0 = a ∧ va_P (dC, dI) CL (nX ad cI tl nI0 (nR0 f tl) ++ [(tp, .inl (cI, L, .inl f))]) t.heap ∧ va_K (dC, dI) CL [(cI, .int)] t ∧ va_D A (nX ad cI tl nI0 (nR0 f tl) ++ [(tp, .inl (cI, L, .inl f))])
set_option maxHeartbeats 8000000 in
theorem c_Ni_init (l : Launch) (dC : Nat → ClassId) (dI : Nat → Nat → Nat) (a tp : Nat) (cI : ClassId) (L : Nat) (hL : L ≤ 100) (f : Nat → Int32) (v2 : Int32) (sz : Nat) : Met l y_Ni_init (Cond.code y_Ni_init b_Ni_init 4 none :: WT) rmN (va_Pc [.ref a, .ref tp, .int v2] (nPi dC dI a tp cI L f sz)) (va_Qv (fun (_ : Nat → Nat) => True) (nBi dC dI a tp cI L f (nTl v2 L) (va_A (nW0 a tp cI L f) sz)) (va_A (nW0 a tp cI L f) sz)) 5 230 (va_A (nW0 a tp cI L f) sz) := by
  refine Met.ofW (cc := b_Ni_init) (maxL := 4) (ret := none) (by decide) rfl ?_
  intro p e s m args below meth c s₁ B hml hv
  obtain ⟨rfl, hsz, hP, hK, hD0⟩ := hv
  have hx := B.exec
  have hb := B.bytes
  have hr := B.returns
  have hts := atoms_spec (ws := Cond.code y_Ni_init b_Ni_init 4 none :: WT) B.pre
  have hT : ∀ w ∈ WT, w.before _ s = true := fun w hw => hts w (List.mem_cons_of_mem _ hw)
  have hown : s.vm.findClass "LanternBridge$Night" = some m.cls := findClass_of_methodNamed B.named
  have hlk := B.notSynchronized
  have hin : meth.name = "<init>" := (name_of_methodNamed B.named B.method).1
  subst hsz
  have hD := hD0.self (sz := s.heap.size)
  generalize hAe : va_A (nW0 a tp cI L f) s.heap.size = A at hD ⊢
  have hA : ∀ q : Nat, s.heap.size ≤ q → A q := fun q h => by rw [← hAe]; exact Or.inr h
  have hS : va_S A s.heap s.heap [] := va_S.rf
  obtain ⟨hx0, hxL⟩ := jm_ok v2 hL
  obtain ⟨x3, ex3⟩ : ∃ x, x = jmax 0 (jmin v2 (nI L)) := ⟨_, rfl⟩
  rw [← ex3] at hx0 hxL
  have etl : nTl v2 L = x3.toNatClampNeg := by rw [ex3]; rfl
  rw [etl]
  obtain ⟨tl, htl⟩ : ∃ t, t = x3.toNatClampNeg := ⟨_, rfl⟩
  rw [← htl] at hxL ⊢
  obtain ⟨ls, hE, hl⟩ := en_ls m [.ref a, .ref tp, .int v2] (n := 4) (Nat.le_of_ble_eq_true rfl)
  rw [hE]
  have hl : lv_has ls 4 [(0, .ref a), (1, .ref tp), (2, .int v2)] := hl
  refine lv_aload_n hx hb d_Ni_init_0 rfl (lv_at hl 0 rfl) ?_
  refine W.objInit hx hb hown (hT _ ml_Ni_1) (hT _ im_Object_init) (hT _ cdO) rfl (by rw [hml]; exact hl.1) rfl d_Ni_init_1 (Nat.le_of_ble_eq_true rfl) (Nat.le_of_ble_eq_true rfl) ?_
  refine W.eq (g2 := F0 m 4 ls []) rfl ?_
  refine lv_aload_n hx hb d_Ni_init_4 rfl (lv_at hl 0 rfl) ?_
  refine lv_iconst (v := 2) hx hb d_Ni_init_5 (by decide) ?_
  refine va_put (D := (dC, dI)) (ci := 4) (v := .int 2) (ty := .int) (C := R_Ni) (T := F_Ni) (N := 11) hx hb hT uw_Ni ty_Ni ok_Ni nm_Ni hown hK hP hD hS 0 rfl rfl 0 (by decide) (hT _ fl_Ni_7) (fun _ h9 => h9) rfl (by decide +kernel) rfl rfl (Nat.le_of_ble_eq_true rfl) d_Ni_init_6 (fun H locs hP hD hS => ?_)
  have hP : va_P (dC, dI) CL [(a, .inr (4, [.int 2, .int 0, .int 0, .null, .int 0, .null, .int 0, .null, .null, .null, .int 0])), (tp, .inl (cI, L, .inl f))] H := hP
  have hD : va_D A [(a, .inr (4, [.int 2, .int 0, .int 0, .null, .int 0, .null, .int 0, .null, .null, .null, .int 0])), (tp, .inl (cI, L, .inl f))] := hD
  refine lv_aload_n hx hb d_Ni_init_9 rfl (lv_at hl 0 rfl) ?_
  refine lv_bipush (v := 99) hx hb d_Ni_init_10 (by decide) ?_
  refine va_put (D := (dC, dI)) (ci := 4) (v := .int 99) (ty := .int) (C := R_Ni) (T := F_Ni) (N := 11) hx hb hT uw_Ni ty_Ni ok_Ni nm_Ni hown hK hP hD hS 0 rfl rfl 1 (by decide) (hT _ fl_Ni_13) (fun _ h9 => h9) rfl (by decide +kernel) rfl rfl (Nat.le_of_ble_eq_true rfl) d_Ni_init_12 (fun H locs hP hD hS => ?_)
  have hP : va_P (dC, dI) CL [(a, .inr (4, [.int 2, .int 99, .int 0, .null, .int 0, .null, .int 0, .null, .null, .null, .int 0])), (tp, .inl (cI, L, .inl f))] H := hP
  have hD : va_D A [(a, .inr (4, [.int 2, .int 99, .int 0, .null, .int 0, .null, .int 0, .null, .null, .null, .int 0])), (tp, .inl (cI, L, .inl f))] := hD
  refine lv_aload_n hx hb d_Ni_init_15 rfl (lv_at hl 0 rfl) ?_
  refine lv_iconst (v := 0) hx hb d_Ni_init_16 (by decide) ?_
  refine va_put (D := (dC, dI)) (ci := 4) (v := .int 0) (ty := .int) (C := R_Ni) (T := F_Ni) (N := 11) hx hb hT uw_Ni ty_Ni ok_Ni nm_Ni hown hK hP hD hS 0 rfl rfl 2 (by decide) (hT _ fl_Ni_16) (fun _ h9 => h9) rfl (by decide +kernel) rfl rfl (Nat.le_of_ble_eq_true rfl) d_Ni_init_17 (fun H locs hP hD hS => ?_)
  have hP : va_P (dC, dI) CL [(a, .inr (4, [.int 2, .int 99, .int 0, .null, .int 0, .null, .int 0, .null, .null, .null, .int 0])), (tp, .inl (cI, L, .inl f))] H := hP
  have hD : va_D A [(a, .inr (4, [.int 2, .int 99, .int 0, .null, .int 0, .null, .int 0, .null, .null, .null, .int 0])), (tp, .inl (cI, L, .inl f))] := hD
  refine lv_aload_n hx hb d_Ni_init_20 rfl (lv_at hl 0 rfl) ?_
  refine lv_bipush (v := 10) hx hb d_Ni_init_21 (by decide) ?_
  refine va_newa (atype := .int) (ty := .int) (a0 := (10, .inl (fun _ => 0))) hx hb (hT _ w1_90) rfl hK hP hD hS hA (fun _ => rfl) (by decide) (by decide) (by decide) (Nat.le_of_ble_eq_true rfl) (Nat.le_of_ble_eq_true rfl) d_Ni_init_23 (fun q7 cA H hK2 hP hD hS => ?_)
  rw [cI_eq (i := 0) (j := 1) hK2 rfl rfl] at hP hD
  clear hK2
  have hP : va_P (dC, dI) CL [(a, .inr (4, [.int 2, .int 99, .int 0, .null, .int 0, .null, .int 0, .null, .null, .null, .int 0])), (tp, .inl (cI, L, .inl f)), (q7, .inl (cI, 10, .inl (fun _ => 0)))] H := hP
  have hD : va_D A [(a, .inr (4, [.int 2, .int 99, .int 0, .null, .int 0, .null, .int 0, .null, .null, .null, .int 0])), (tp, .inl (cI, L, .inl f)), (q7, .inl (cI, 10, .inl (fun _ => 0)))] := hD
  refine va_putF (D := (dC, dI)) (ci := 4) (v := .ref q7) (ty := .array .int) (C := R_Ni) (T := F_Ni) (N := 11) hx hb hT uw_Ni ty_Ni ok_Ni nm_Ni hown hK hP hD hS 0 rfl rfl 7 (by decide) (hT _ fl_Ni_19) (fun _ h9 => h9) rfl hin rfl (by decide +kernel) rfl rfl (Nat.le_of_ble_eq_true rfl) d_Ni_init_25 (fun H locs hP hD hS => ?_)
  have hP : va_P (dC, dI) CL [(a, .inr (4, [.int 2, .int 99, .int 0, .null, .int 0, .null, .int 0, .ref q7, .null, .null, .int 0])), (tp, .inl (cI, L, .inl f)), (q7, .inl (cI, 10, .inl (fun _ => 0)))] H := hP
  have hD : va_D A [(a, .inr (4, [.int 2, .int 99, .int 0, .null, .int 0, .null, .int 0, .ref q7, .null, .null, .int 0])), (tp, .inl (cI, L, .inl f)), (q7, .inl (cI, 10, .inl (fun _ => 0)))] := hD
  refine lv_aload_n hx hb d_Ni_init_28 rfl (lv_at hl 0 rfl) ?_
  refine lv_bipush (v := 10) hx hb d_Ni_init_29 (by decide) ?_
  refine va_newa (atype := .int) (ty := .int) (a0 := (10, .inl (fun _ => 0))) hx hb (hT _ w1_90) rfl hK hP hD hS hA (fun _ => rfl) (by decide) (by decide) (by decide) (Nat.le_of_ble_eq_true rfl) (Nat.le_of_ble_eq_true rfl) d_Ni_init_31 (fun q8 cA H hK2 hP hD hS => ?_)
  rw [cI_eq (i := 0) (j := 1) hK2 rfl rfl] at hP hD
  clear hK2
  have hP : va_P (dC, dI) CL [(a, .inr (4, [.int 2, .int 99, .int 0, .null, .int 0, .null, .int 0, .ref q7, .null, .null, .int 0])), (tp, .inl (cI, L, .inl f)), (q7, .inl (cI, 10, .inl (fun _ => 0))), (q8, .inl (cI, 10, .inl (fun _ => 0)))] H := hP
  have hD : va_D A [(a, .inr (4, [.int 2, .int 99, .int 0, .null, .int 0, .null, .int 0, .ref q7, .null, .null, .int 0])), (tp, .inl (cI, L, .inl f)), (q7, .inl (cI, 10, .inl (fun _ => 0))), (q8, .inl (cI, 10, .inl (fun _ => 0)))] := hD
  refine va_putF (D := (dC, dI)) (ci := 4) (v := .ref q8) (ty := .array .int) (C := R_Ni) (T := F_Ni) (N := 11) hx hb hT uw_Ni ty_Ni ok_Ni nm_Ni hown hK hP hD hS 0 rfl rfl 8 (by decide) (hT _ fl_Ni_23) (fun _ h9 => h9) rfl hin rfl (by decide +kernel) rfl rfl (Nat.le_of_ble_eq_true rfl) d_Ni_init_33 (fun H locs hP hD hS => ?_)
  have hP : va_P (dC, dI) CL [(a, .inr (4, [.int 2, .int 99, .int 0, .null, .int 0, .null, .int 0, .ref q7, .ref q8, .null, .int 0])), (tp, .inl (cI, L, .inl f)), (q7, .inl (cI, 10, .inl (fun _ => 0))), (q8, .inl (cI, 10, .inl (fun _ => 0)))] H := hP
  have hD : va_D A [(a, .inr (4, [.int 2, .int 99, .int 0, .null, .int 0, .null, .int 0, .ref q7, .ref q8, .null, .int 0])), (tp, .inl (cI, L, .inl f)), (q7, .inl (cI, 10, .inl (fun _ => 0))), (q8, .inl (cI, 10, .inl (fun _ => 0)))] := hD
  refine lv_aload_n hx hb d_Ni_init_36 rfl (lv_at hl 0 rfl) ?_
  refine lv_bipush (v := 10) hx hb d_Ni_init_37 (by decide) ?_
  refine va_newa (atype := .int) (ty := .int) (a0 := (10, .inl (fun _ => 0))) hx hb (hT _ w1_90) rfl hK hP hD hS hA (fun _ => rfl) (by decide) (by decide) (by decide) (Nat.le_of_ble_eq_true rfl) (Nat.le_of_ble_eq_true rfl) d_Ni_init_39 (fun q9 cA H hK2 hP hD hS => ?_)
  rw [cI_eq (i := 0) (j := 1) hK2 rfl rfl] at hP hD
  clear hK2
  have hP : va_P (dC, dI) CL [(a, .inr (4, [.int 2, .int 99, .int 0, .null, .int 0, .null, .int 0, .ref q7, .ref q8, .null, .int 0])), (tp, .inl (cI, L, .inl f)), (q7, .inl (cI, 10, .inl (fun _ => 0))), (q8, .inl (cI, 10, .inl (fun _ => 0))), (q9, .inl (cI, 10, .inl (fun _ => 0)))] H := hP
  have hD : va_D A [(a, .inr (4, [.int 2, .int 99, .int 0, .null, .int 0, .null, .int 0, .ref q7, .ref q8, .null, .int 0])), (tp, .inl (cI, L, .inl f)), (q7, .inl (cI, 10, .inl (fun _ => 0))), (q8, .inl (cI, 10, .inl (fun _ => 0))), (q9, .inl (cI, 10, .inl (fun _ => 0)))] := hD
  refine va_putF (D := (dC, dI)) (ci := 4) (v := .ref q9) (ty := .array .int) (C := R_Ni) (T := F_Ni) (N := 11) hx hb hT uw_Ni ty_Ni ok_Ni nm_Ni hown hK hP hD hS 0 rfl rfl 9 (by decide) (hT _ fl_Ni_26) (fun _ h9 => h9) rfl hin rfl (by decide +kernel) rfl rfl (Nat.le_of_ble_eq_true rfl) d_Ni_init_41 (fun H locs hP hD hS => ?_)
  have hP : va_P (dC, dI) CL [(a, .inr (4, [.int 2, .int 99, .int 0, .null, .int 0, .null, .int 0, .ref q7, .ref q8, .ref q9, .int 0])), (tp, .inl (cI, L, .inl f)), (q7, .inl (cI, 10, .inl (fun _ => 0))), (q8, .inl (cI, 10, .inl (fun _ => 0))), (q9, .inl (cI, 10, .inl (fun _ => 0)))] H := hP
  have hD : va_D A [(a, .inr (4, [.int 2, .int 99, .int 0, .null, .int 0, .null, .int 0, .ref q7, .ref q8, .ref q9, .int 0])), (tp, .inl (cI, L, .inl f)), (q7, .inl (cI, 10, .inl (fun _ => 0))), (q8, .inl (cI, 10, .inl (fun _ => 0))), (q9, .inl (cI, 10, .inl (fun _ => 0)))] := hD
  refine lv_iconst (v := 0) hx hb d_Ni_init_44 (by decide) ?_
  refine lv_iload_n hx hb d_Ni_init_45 rfl (lv_at hl 2 rfl) ?_
  refine lv_aload_n hx hb d_Ni_init_46 rfl (lv_at hl 1 rfl) ?_
  refine va_alen (v := nI L) hx hb hK hP 1 0 rfl rfl rfl d_Ni_init_47 ?_
  refine k_jmin hx hb hml hown hl.1 (hT _ ml_Ni_29) hT d_Ni_init_48 (Nat.le_of_ble_eq_true rfl) (Nat.le_of_ble_eq_true rfl) (Nat.le_of_ble_eq_true rfl) ⟨Nat.le_of_ble_eq_true rfl, Nat.le_of_ble_eq_true rfl⟩ ?_
  refine k_jmax hx hb hml hown hl.1 (hT _ ml_Ni_35) hT d_Ni_init_51 (Nat.le_of_ble_eq_true rfl) (Nat.le_of_ble_eq_true rfl) (Nat.le_of_ble_eq_true rfl) ⟨Nat.le_of_ble_eq_true rfl, Nat.le_of_ble_eq_true rfl⟩ ?_
  rw [← ex3]
  refine lv_istore_n (lv' := [(3, .int x3), (0, .ref a), (1, .ref tp), (2, .int v2)]) hx hb d_Ni_init_54 rfl hl (by decide) rfl (fun ls hl => ?_)
  refine lv_aload_n hx hb d_Ni_init_55 rfl (lv_at hl 1 rfl) ?_
  refine lv_iload_n hx hb d_Ni_init_56 rfl (lv_at hl 0 rfl) ?_
  refine va_newa (atype := .int) (ty := .int) (a0 := (tl, .inl (fun _ => 0))) hx hb (hT _ w1_90) rfl hK hP hD hS hA (fun _ => rfl) hx0 htl.symm (by show tl * 4 ≤ _; omega) (Nat.le_of_ble_eq_true rfl) (by show 0 + 10 + 10 + 10 + tl ≤ 230; omega) d_Ni_init_57 (fun q3 cA H hK2 hP hD hS => ?_)
  rw [cI_eq (i := 0) (j := 1) hK2 rfl rfl] at hP hD
  clear hK2
  have hP : va_P (dC, dI) CL [(a, .inr (4, [.int 2, .int 99, .int 0, .null, .int 0, .null, .int 0, .ref q7, .ref q8, .ref q9, .int 0])), (tp, .inl (cI, L, .inl f)), (q7, .inl (cI, 10, .inl (fun _ => 0))), (q8, .inl (cI, 10, .inl (fun _ => 0))), (q9, .inl (cI, 10, .inl (fun _ => 0))), (q3, .inl (cI, tl, .inl (fun _ => 0)))] H := hP
  have hD : va_D A [(a, .inr (4, [.int 2, .int 99, .int 0, .null, .int 0, .null, .int 0, .ref q7, .ref q8, .ref q9, .int 0])), (tp, .inl (cI, L, .inl f)), (q7, .inl (cI, 10, .inl (fun _ => 0))), (q8, .inl (cI, 10, .inl (fun _ => 0))), (q9, .inl (cI, 10, .inl (fun _ => 0))), (q3, .inl (cI, tl, .inl (fun _ => 0)))] := hD
  refine va_putF (D := (dC, dI)) (ci := 4) (v := .ref q3) (ty := .array .int) (C := R_Ni) (T := F_Ni) (N := 11) hx hb hT uw_Ni ty_Ni ok_Ni nm_Ni hown hK hP hD hS 0 rfl rfl 3 (by decide) (hT _ fl_Ni_38) (fun _ h9 => h9) rfl hin rfl (by decide +kernel) rfl rfl (Nat.le_of_ble_eq_true rfl) d_Ni_init_59 (fun H locs hP hD hS => ?_)
  have hP : va_P (dC, dI) CL [(a, .inr (4, [.int 2, .int 99, .int 0, .ref q3, .int 0, .null, .int 0, .ref q7, .ref q8, .ref q9, .int 0])), (tp, .inl (cI, L, .inl f)), (q7, .inl (cI, 10, .inl (fun _ => 0))), (q8, .inl (cI, 10, .inl (fun _ => 0))), (q9, .inl (cI, 10, .inl (fun _ => 0))), (q3, .inl (cI, tl, .inl (fun _ => 0)))] H := hP
  have hD : va_D A [(a, .inr (4, [.int 2, .int 99, .int 0, .ref q3, .int 0, .null, .int 0, .ref q7, .ref q8, .ref q9, .int 0])), (tp, .inl (cI, L, .inl f)), (q7, .inl (cI, 10, .inl (fun _ => 0))), (q8, .inl (cI, 10, .inl (fun _ => 0))), (q9, .inl (cI, 10, .inl (fun _ => 0))), (q3, .inl (cI, tl, .inl (fun _ => 0)))] := hD
  refine lv_aload_n hx hb d_Ni_init_62 rfl (lv_at hl 2 rfl) ?_
  refine lv_iconst (v := 0) hx hb d_Ni_init_63 (by decide) ?_
  refine lv_aload_n hx hb d_Ni_init_64 rfl (lv_at hl 1 rfl) ?_
  refine va_get (D := (dC, dI)) (ci := 4) (v := .ref q3) (C := R_Ni) (T := F_Ni) (N := 11) hx hb hT uw_Ni hown hK hP 0 rfl rfl 3 (by decide) (hT _ fl_Ni_38) (fun _ h9 => h9) rfl d_Ni_init_65 ?_
  refine lv_iconst (v := 0) hx hb d_Ni_init_68 (by decide) ?_
  refine lv_iload_n hx hb d_Ni_init_69 rfl (lv_at hl 0 rfl) ?_
  refine va_copyi hx hb (hml.trans hl.1.symm) hown (hT _ acL_Ni) (hT _ acN) (hT _ acS) (hT _ ini_System) hK hP hD hS 1 5 0 0 rfl rfl rfl rfl rfl (by decide) (by decide) hx0 (by rw [← htl]; show 0 + tl ≤ L; omega) (by rw [← htl]; show 0 + tl ≤ tl; omega) (fun _ _ => rfl) (Nat.le_of_ble_eq_true rfl) (Nat.le_of_ble_eq_true rfl) d_Ni_init_70 (fun H locs hP hD hS => ?_)
  rw [← htl] at hP hD
  have hP : va_P (dC, dI) CL [(a, .inr (4, [.int 2, .int 99, .int 0, .ref q3, .int 0, .null, .int 0, .ref q7, .ref q8, .ref q9, .int 0])), (tp, .inl (cI, L, .inl f)), (q7, .inl (cI, 10, .inl (fun _ => 0))), (q8, .inl (cI, 10, .inl (fun _ => 0))), (q9, .inl (cI, 10, .inl (fun _ => 0))), (q3, .inl (cI, tl, .inl (va_cpy f (fun _ => 0) 0 0 tl)))] H := hP
  have hD : va_D A [(a, .inr (4, [.int 2, .int 99, .int 0, .ref q3, .int 0, .null, .int 0, .ref q7, .ref q8, .ref q9, .int 0])), (tp, .inl (cI, L, .inl f)), (q7, .inl (cI, 10, .inl (fun _ => 0))), (q8, .inl (cI, 10, .inl (fun _ => 0))), (q9, .inl (cI, 10, .inl (fun _ => 0))), (q3, .inl (cI, tl, .inl (va_cpy f (fun _ => 0) 0 0 tl)))] := hD
  refine lv_aload_n hx hb d_Ni_init_73 rfl (lv_at hl 1 rfl) ?_
  refine lv_iload_n hx hb d_Ni_init_74 rfl (lv_at hl 0 rfl) ?_
  refine va_newa (atype := .int) (ty := .int) (a0 := (tl, .inl (fun _ => 0))) hx hb (hT _ w1_90) rfl hK hP hD hS hA (fun _ => rfl) hx0 htl.symm (by show tl * 4 ≤ _; omega) (Nat.le_of_ble_eq_true rfl) (by show 0 + 10 + 10 + 10 + tl + tl ≤ 230; omega) d_Ni_init_75 (fun q5 cA H hK2 hP hD hS => ?_)
  rw [cI_eq (i := 0) (j := 1) hK2 rfl rfl] at hP hD
  clear hK2
  have hP : va_P (dC, dI) CL [(a, .inr (4, [.int 2, .int 99, .int 0, .ref q3, .int 0, .null, .int 0, .ref q7, .ref q8, .ref q9, .int 0])), (tp, .inl (cI, L, .inl f)), (q7, .inl (cI, 10, .inl (fun _ => 0))), (q8, .inl (cI, 10, .inl (fun _ => 0))), (q9, .inl (cI, 10, .inl (fun _ => 0))), (q3, .inl (cI, tl, .inl (va_cpy f (fun _ => 0) 0 0 tl))), (q5, .inl (cI, tl, .inl (fun _ => 0)))] H := hP
  have hD : va_D A [(a, .inr (4, [.int 2, .int 99, .int 0, .ref q3, .int 0, .null, .int 0, .ref q7, .ref q8, .ref q9, .int 0])), (tp, .inl (cI, L, .inl f)), (q7, .inl (cI, 10, .inl (fun _ => 0))), (q8, .inl (cI, 10, .inl (fun _ => 0))), (q9, .inl (cI, 10, .inl (fun _ => 0))), (q3, .inl (cI, tl, .inl (va_cpy f (fun _ => 0) 0 0 tl))), (q5, .inl (cI, tl, .inl (fun _ => 0)))] := hD
  refine va_putF (D := (dC, dI)) (ci := 4) (v := .ref q5) (ty := .array .int) (C := R_Ni) (T := F_Ni) (N := 11) hx hb hT uw_Ni ty_Ni ok_Ni nm_Ni hown hK hP hD hS 0 rfl rfl 5 (by decide) (hT _ fl_Ni_47) (fun _ h9 => h9) rfl hin rfl (by decide +kernel) rfl rfl (Nat.le_of_ble_eq_true rfl) d_Ni_init_77 (fun H locs hP hD hS => ?_)
  have hP : va_P (dC, dI) CL [(a, .inr (4, [.int 2, .int 99, .int 0, .ref q3, .int 0, .ref q5, .int 0, .ref q7, .ref q8, .ref q9, .int 0])), (tp, .inl (cI, L, .inl f)), (q7, .inl (cI, 10, .inl (fun _ => 0))), (q8, .inl (cI, 10, .inl (fun _ => 0))), (q9, .inl (cI, 10, .inl (fun _ => 0))), (q3, .inl (cI, tl, .inl (va_cpy f (fun _ => 0) 0 0 tl))), (q5, .inl (cI, tl, .inl (fun _ => 0)))] H := hP
  have hD : va_D A [(a, .inr (4, [.int 2, .int 99, .int 0, .ref q3, .int 0, .ref q5, .int 0, .ref q7, .ref q8, .ref q9, .int 0])), (tp, .inl (cI, L, .inl f)), (q7, .inl (cI, 10, .inl (fun _ => 0))), (q8, .inl (cI, 10, .inl (fun _ => 0))), (q9, .inl (cI, 10, .inl (fun _ => 0))), (q3, .inl (cI, tl, .inl (va_cpy f (fun _ => 0) 0 0 tl))), (q5, .inl (cI, tl, .inl (fun _ => 0)))] := hD
  have hP9 := hP.sub (ws' := nX (fun k => if k = 0 then a else if k = 3 then q3 else if k = 5 then q5 else if k = 7 then q7 else if k = 8 then q8 else q9) cI tl nI0 (nR0 f tl) ++ [(tp, .inl (cI, L, .inl f))]) [0, 5, 6, 2, 3, 4, 1] rfl
  have hD9 := hD.sub (ws' := nX (fun k => if k = 0 then a else if k = 3 then q3 else if k = 5 then q5 else if k = 7 then q7 else if k = 8 then q8 else q9) cI tl nI0 (nR0 f tl) ++ [(tp, .inl (cI, L, .inl f))]) [0, 5, 6, 2, 3, 4, 1] (by decide) rfl
  refine W.widen (k := 5) (n := 230) (by omega) (by omega) ?_
  exact W.vret hx hb hr (fun t ht hW => ⟨⟨_, rfl, trivial, rfl, by rw [ht]; exact hP9, va_K.moved hW.alike hK, hD9⟩, hS.F ht⟩) hS.2.2 d_Ni_init_80 hlk
