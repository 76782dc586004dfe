/-! ===== calls of the class' writers while new cells Y stand behind the class' own ===== -/
theorem pS_full {dC : Nat → ClassId} {dI : Nat → Nat → Nat} {ad : Nat → Nat} {cI cZ cW cJ : ClassId} {F G : Nat → Nat → Int32} {P : Nat → Nat → Option Nat} {N : Nat → Nat} {E : PE} {H : Heap} (hp : pS dC dI cI E (fixA ad cI cZ cW cJ F G P N) H) : pS dC dI cI E (va_A (cX ad cI cZ cW cJ F G P N) H.size) H :=
  ⟨fun a ha => ⟨(hp.1 a ha).1, (hp.1 a ha).2.1, fun h => h.elim (hp.1 a ha).2.2 (fun h2 => absurd (hp.1 a ha).2.1.lt (Nat.not_lt.mpr h2))⟩, fun a ha => ⟨(hp.2 a ha).1, fun k q hk h => h.elim ((hp.2 a ha).2 k q hk) (fun h2 => absurd ((hp.2 a ha).1 k q hk).lt (Nat.not_lt.mpr h2))⟩⟩
theorem ap_rD {A : Nat → Prop} {ws Y : va_W} (h : va_D A (ws ++ Y)) : va_D A Y := ⟨fun i j p q hi hj e => by
    have := h.1 (ws.length + i) (ws.length + j) p q (by rw [List.getElem?_append_right (Nat.le_add_right _ _), Nat.add_sub_cancel_left]; exact hi) (by rw [List.getElem?_append_right (Nat.le_add_right _ _), Nat.add_sub_cancel_left]; exact hj) e
    omega, fun k q hk => h.2 (ws.length + k) q (by rw [List.getElem?_append_right (Nat.le_add_right _ _), Nat.add_sub_cancel_left]; exact hk)⟩
section KZ
variable {p : Program} {l : Launch} {e : Env} {Rm rm : Room} {s : State} {m : MethodId} {args : Array Value} {below : List Frame} {meth : Method} {c : Code} {H : Heap} {locs : List Loc} {cells slots : Nat} {Q : State → Prop} {cc b : ByteArray} {n nL pc ix na : Nat} {ls : Array Slot} {rest st0 : List Value} {As : (Nat → Nat) → List Value} {dC : Nat → ClassId} {dI : Nat → Nat → Nat} {ad : Nat → Nat} {cI cZ cW cJ : ClassId} {F G F' G' : Nat → Nat → Int32} {P P' : Nat → Nat → Option Nat} {N N' : Nat → Nat} {A : Nat → Prop} {adK adV : Nat → Nat} {E E' : PE} {own : String} {y : MethodName} {ty : FieldType} {Y : va_W}
theorem cHY_free (h : cHY A s.heap dC dI ad cI cZ cW cJ F G P N Y H locs) (hA : ∀ q, s.heap.size ≤ q → A q) : ∀ q, va_A (cX ad cI cZ cW cJ F G P N) H.size q → A q := fun q hq => by
  rcases hq with ⟨k, e, hk⟩ | hq
  · exact (ap_lD h.2.1).2 k _ hk
  · exact hA q (Nat.le_trans h.2.2.1 hq)
theorem cPreY (C : cC p s m args c cc nL own dC dI cI cZ cW cJ A adK adV E) (h : cHY A s.heap dC dI ad cI cZ cW cJ F G P N Y H locs) (hA : ∀ q, s.heap.size ≤ q → A q) (hp : pS dC dI cI E' (fixA ad cI cZ cW cJ F G P N) H) (U : State) (hU : U.heap = H) (hW : s.WarmedH U.vm) : cPre dC dI ad cI cZ cW cJ adK adV E' F G P N H.size U :=
  ⟨by rw [hU], by rw [hU]; exact ap_l h.1, va_K.moved hW.alike C.2.2.2.2.2.1, (ap_lD h.2.1).weaken (fun _ _ _ _ => trivial), by rw [hU]; exact ((C.2.2.2.2.2.2.1.kept h.2.2.2.1).moved hW.alike).narrow (cHY_free h hA), C.2.2.2.2.2.2.2.1.warm hW, by rw [hU]; exact pS_full hp, C.2.2.2.2.2.2.2.2.2.moved hW.alike⟩
/-- what stands behind such a call -/
theorem kz_after {H1 : Heap} {locs1 : List Loc} {t : State} (h : cHY A s.heap dC dI ad cI cZ cW cJ F G P N Y H locs) (hA : ∀ q, s.heap.size ≤ q → A q) (hp : pS dC dI cI E' (fixA ad cI cZ cW cJ F G P N) H) (ht : t.heap = H1) (hB : cPost dC dI ad cI cZ cW cJ (va_A (cX ad cI cZ cW cJ F G P N) H.size) (F', G', P', N') t) (hk1 : ∀ q : Nat, q < H.size → ¬ va_A (cX ad cI cZ cW cJ F G P N) H.size q → H1[q]? = H[q]?) (hS : va_S A s.heap H1 locs1) : cHY A s.heap dC dI ad cI cZ cW cJ F' G' P' N' Y H1 locs1 ∧ pS dC dI cI E' (fixA ad cI cZ cW cJ F' G' P' N') H1 := by
  have hP1 : va_P (dC, dI) CL (cX ad cI cZ cW cJ F' G' P' N') H1 := by rw [← ht]; exact hB.1
  have hY : ∀ (k : Nat) (q : Nat × va_E), Y[k]? = some q → q.1 < H.size ∧ ¬ va_A (cX ad cI cZ cW cJ F G P N) H.size q.1 := fun k q hk => by
    have hl := (ap_r h.1 k q hk).lt
    exact ⟨hl, fun h2 => h2.elim (ap_ne h.2.1 hk) (fun h3 => absurd hl (Nat.not_lt.mpr h3))⟩
  have hPY : va_P (dC, dI) CL Y H1 := fun k q hk => (ap_r h.1 k q hk).kept (hk1 q.1 (hY k q hk).1 (hY k q hk).2)
  refine ⟨⟨va_P.app hP1 hPY, va_D.app (hB.2.2.weaken (fun _ q _ hq => cHY_free h hA _ hq)) (ap_rD h.2.1) (fun i j a b hi hj e9 => ?_), hS⟩, ?_⟩
  · have h1 := hB.2.2.2 i a hi
    rw [e9] at h1
    exact (hY j b hj).2 h1
  · have hf := pS_full hp
    have h2 : pS dC dI cI E' (va_A (cX ad cI cZ cW cJ F G P N) H.size) H1 := hf.kept (fun a h1 h2 => hk1 a h1 h2)
    exact h2.narrow (fun q hq => Or.inl (fixA_iff.mpr (fixA_iff.mp hq)))
theorem kz_i {f : Option (Int32 × CU)} {r : Int32} (C : cC p s m args c cc nL own dC dI cI cZ cW cJ A adK adV E) (h : cHY A s.heap dC dI ad cI cZ cW cJ F G P N Y H locs) (hA : ∀ q, s.heap.size ≤ q → A q) (hp : pS dC dI cI E' (fixA ad cI cZ cW cJ F G P N) H) {C0 : String} {b0 : Nat} {As1 : List Value} (hAs : As ad = .ref b0 :: As1) (hrc : ∃ cell : Cell, H[b0]? = some cell ∧ cell.vm.isStatics = false ∧ s.vm.findClass C0 = some cell.cls) (hM : CMi l y b n ty rm E' As F G P N f) (hf : f = some (r, F', G', P', N'))
    (cb : CallB Rm s args own ix y b n (some ty) (Cond.code y b n (some ty) :: WT) rm 0 0 na) (im : Cond.instanceMethod y ∈ WT) (se : Cond.selects C0 y y ∈ WT)
    (hn : As1.length = na) (hsz : ls.size = nL) (hst : st0 = As1.reverse ++ .ref b0 :: rest) (hW : (rest.map fun v => v.category).sum ≤ 8) (hdg : decode cc pc = .ok (.invokevirtual ix, 3)) (hcs : cells ≤ Rm.cells ∧ slots ≤ Rm.slots)
    (kk : ∀ (H1 : Heap) (locs1 : List Loc), cHY A s.heap dC dI ad cI cZ cW cJ F' G' P' N' Y H1 locs1 → pS dC dI cI E' (fixA ad cI cZ cW cJ F' G' P' N') H1 → W p l e Rm s m args below meth c H1 locs1 cells slots Q (F0 m (pc + 3) ls (.int r :: rest))) : W p l e Rm s m args below meth c H locs cells slots Q (F0 m pc ls st0) := by
  refine va_calli (va_runV (C := C0) (b := b0) (As := As1) (rest := rest) ⟨C.1, C.2.1, C.2.2.1, C.2.2.2.1, C.2.2.2.2.1⟩ (hAs ▸ hM _ hf dC dI ad cI cZ cW cJ adK adV H.size) ⟨cb, C.2.2.2.2.1 _ im, C.2.2.2.2.1 _ se⟩ ⟨fun a U g mk q => ⟨q.1, cPre_bl a U g mk q.2⟩, hrc, fun U hU hW => ⟨rfl, cPreY C h hA hp U hU hW⟩⟩ rfl hn hsz hst (lv_room hW) hdg hcs) h.2.2 (fun q _ hq => cHY_free h hA q hq) (cHY_free h hA) (fun r1 u1 t H1 locs1 ht hvm hw hB hz1 hk1 hS => ?_)
  cases hw
  obtain ⟨h1, h2⟩ := kz_after h hA hp ht hB hk1 hS
  exact kk H1 locs1 h1 h2
theorem kz_v {f : Option CU} (C : cC p s m args c cc nL own dC dI cI cZ cW cJ A adK adV E) (h : cHY A s.heap dC dI ad cI cZ cW cJ F G P N Y H locs) (hA : ∀ q, s.heap.size ≤ q → A q) (hp : pS dC dI cI E' (fixA ad cI cZ cW cJ F G P N) H) {C0 : String} {b0 : Nat} {As1 : List Value} (hAs : As ad = .ref b0 :: As1) (hrc : ∃ cell : Cell, H[b0]? = some cell ∧ cell.vm.isStatics = false ∧ s.vm.findClass C0 = some cell.cls) (hM : CMv l y b n rm E' As F G P N f) (hf : f = some (F', G', P', N'))
    (cb : CallB Rm s args own ix y b n none (Cond.code y b n none :: WT) rm 0 0 na) (im : Cond.instanceMethod y ∈ WT) (se : Cond.selects C0 y y ∈ WT)
    (hn : As1.length = na) (hsz : ls.size = nL) (hst : st0 = As1.reverse ++ .ref b0 :: rest) (hW : (rest.map fun v => v.category).sum ≤ 8) (hdg : decode cc pc = .ok (.invokevirtual ix, 3)) (hcs : cells ≤ Rm.cells ∧ slots ≤ Rm.slots)
    (kk : ∀ (H1 : Heap) (locs1 : List Loc), cHY A s.heap dC dI ad cI cZ cW cJ F' G' P' N' Y H1 locs1 → pS dC dI cI E' (fixA ad cI cZ cW cJ F' G' P' N') H1 → W p l e Rm s m args below meth c H1 locs1 cells slots Q (F0 m (pc + 3) ls rest)) : W p l e Rm s m args below meth c H locs cells slots Q (F0 m pc ls st0) := by
  refine va_callv (va_runV (C := C0) (b := b0) (As := As1) (rest := rest) ⟨C.1, C.2.1, C.2.2.1, C.2.2.2.1, C.2.2.2.2.1⟩ (hAs ▸ hM _ hf dC dI ad cI cZ cW cJ adK adV H.size) ⟨cb, C.2.2.2.2.1 _ im, C.2.2.2.2.1 _ se⟩ ⟨fun a U g mk q => ⟨q.1, cPre_bl a U g mk q.2⟩, hrc, fun U hU hW => ⟨rfl, cPreY C h hA hp U hU hW⟩⟩ rfl hn hsz hst (lv_room hW) hdg hcs) h.2.2 (fun q _ hq => cHY_free h hA q hq) (cHY_free h hA) (fun u1 t H1 locs1 ht hvm hw hB hz1 hk1 hS => ?_)
  cases hw
  obtain ⟨h1, h2⟩ := kz_after h hA hp ht hB hk1 hS
  exact kk H1 locs1 h1 h2
end KZ
