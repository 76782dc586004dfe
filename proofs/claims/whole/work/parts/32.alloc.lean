def cHY (A : Nat → Prop) (H0 : Heap) (dC : Nat → ClassId) (dI : Nat → Nat → Nat) (ad : Nat → Nat) (cI cZ cW cJ : ClassId) (F G : Nat → Nat → Int32) (P : Nat → Nat → Option Nat) (N : Nat → Nat) (Y : va_W) (H : Heap) (locs : List Loc) : Prop := va_P (dC, dI) CL (cX ad cI cZ cW cJ F G P N ++ Y) H ∧ va_D A (cX ad cI cZ cW cJ F G P N ++ Y) ∧ va_S A H0 H locs
theorem ap_l {D : va_G} {cl : List vw_C} {ws Y : va_W} {H : Heap} (h : va_P D cl (ws ++ Y) H) : va_P D cl ws H := fun k q hk => h k q (by rw [List.getElem?_append_left (List.getElem?_eq_some_iff.mp hk).1]; exact hk)
theorem ap_r {D : va_G} {cl : List vw_C} {ws Y : va_W} {H : Heap} (h : va_P D cl (ws ++ Y) H) : va_P D cl Y H := fun k q hk => h (ws.length + k) q (by rw [List.getElem?_append_right (Nat.le_add_right _ _), Nat.add_sub_cancel_left]; exact hk)
theorem ap_lD {A : Nat → Prop} {ws Y : va_W} (h : va_D A (ws ++ Y)) : va_D A ws := ⟨fun i j p q hi hj e => h.1 i j p q (by rw [List.getElem?_append_left (List.getElem?_eq_some_iff.mp hi).1]; exact hi) (by rw [List.getElem?_append_left (List.getElem?_eq_some_iff.mp hj).1]; exact hj) e, fun k q hk => h.2 k q (by rw [List.getElem?_append_left (List.getElem?_eq_some_iff.mp hk).1]; exact hk)⟩
/-- a cell of Y is none of the others -/
theorem ap_ne {A : Nat → Prop} {ws Y : va_W} (h : va_D A (ws ++ Y)) {k : Nat} {q : Nat × va_E} (hk : Y[k]? = some q) : ¬ ∃ (j : Nat) (e : va_E), ws[j]? = some (q.1, e) := by
  rintro ⟨j, e, hj⟩
  have hl := (List.getElem?_eq_some_iff.mp hj).1
  have e1 := h.1 j (ws.length + k) (q.1, e) q (by rw [List.getElem?_append_left hl]; exact hj) (by rw [List.getElem?_append_right (Nat.le_add_right _ _), Nat.add_sub_cancel_left]; exact hk) rfl
  omega
def fixA (ad : Nat → Nat) (cI cZ cW cJ : ClassId) (F G : Nat → Nat → Int32) (P : Nat → Nat → Option Nat) (N : Nat → Nat) : Nat → Prop := fun q => ∃ (k : Nat) (e : va_E), (cX ad cI cZ cW cJ F G P N)[k]? = some (q, e)
def addW (E : PE) (q ci : Nat) (d : Nat → Int32) : PE := (fun a => if a = q then true else E.1 a, fun a => if a = q then ci else E.2.1 a, fun a => if a = q then d else E.2.2.1 a, E.2.2.2)
theorem pS_addW {dC : Nat → ClassId} {dI : Nat → Nat → Nat} {cI : ClassId} {E : PE} {A : Nat → Prop} {H : Heap} {q ci : Nat} {d : Nat → Int32} (h : pS dC dI cI E A H) (hci : ci ∈ wcl) (hq : va_at (dC, dI) CL (q, .inr (ci, wl d)) H) (hA : ¬ A q) : pS dC dI cI (addW E q ci d) A H := by
  refine ⟨fun a ha => ?_, h.2⟩
  by_cases e : a = q
  · subst e
    simp only [eC, eD, addW, if_pos rfl]
    exact ⟨hci, hq, hA⟩
  · have h1 : eV E a = true := by
      have h2 : (if a = q then true else E.1 a) = true := ha
      rw [if_neg e] at h2
      exact h2
    have h3 := h.1 a h1
    simp only [eC, eD, addW, if_neg e]
    exact h3
theorem clsOf_mem (k : Int32) : clsOf k ∈ wcl := by
  unfold clsOf
  repeat' split
  all_goals decide
section CY
variable {p : Program} {l : Launch} {e : Env} {Rm : Room} {s : State} {m : MethodId} {args : Array Value} {below : List Frame} {meth : Method} {c : Code} {H : Heap} {locs : List Loc} {cells slots : Nat} {Q : State → Prop} {cc : ByteArray} {nL pc ix : Nat} {ls : Array Slot} {rest : List Value} {dC : Nat → ClassId} {dI : Nat → Nat → Nat} {ad : Nat → Nat} {cI cZ cW cJ : ClassId} {F G : Nat → Nat → Int32} {P : Nat → Nat → Option Nat} {N : Nat → Nat} {A : Nat → Prop} {H0 : Heap} {own : String} {Y : va_W}
theorem cpY_0_6 (hx : p.tables.exec = Jvm.exec) (hb : c.code = cc) (hT : ∀ w ∈ WT, w.before args s = true) (hown : s.vm.findClass own = some m.cls) (hK : cK dC dI cI cZ cW cJ s) (h : cHY A H0 dC dI ad cI cZ cW cJ F G P N Y H locs) {x : Int32} (hz : isZ x) (fl : Cond.fieldLink own ix "LanternBridge" "stale" "Z" ∈ WT) (hdg : decode cc pc = .ok (.putfield ix, 3)) (kk : ∀ (H1 : Heap) (locs1 : List Loc), cHY A H0 dC dI ad cI cZ cW cJ (upR F 0 6 x) G P N Y H1 locs1 → W p l e Rm s m args below meth c H1 locs1 cells slots Q (F0 m (pc + 3) ls rest)) : W p l e Rm s m args below meth c H locs cells slots Q (F0 m pc ls (.int x :: .ref (ad 0) :: rest)) :=
  va_put (D := (dC, dI)) (ci := 11) (v := .int x) (ty := .boolean) (C := R_LB) (T := F_LB) (N := 7) hx hb hT uw_LB ty_LB ok_LB nm_LB hown hK h.1 h.2.1 h.2.2 0 rfl rfl 6 (by decide) (hT _ fl) (fun _ h9 => h9) rfl (by decide +kernel) (isZ_nar hz) (isZ_fit hz) (Nat.le_of_ble_eq_true rfl) hdg (fun H1 locs1 a1 a2 a3 => kk H1 locs1 ⟨a1, a2, a3⟩)
theorem cpY_1_1 (hx : p.tables.exec = Jvm.exec) (hb : c.code = cc) (hT : ∀ w ∈ WT, w.before args s = true) (hown : s.vm.findClass own = some m.cls) (hK : cK dC dI cI cZ cW cJ s) (h : cHY A H0 dC dI ad cI cZ cW cJ F G P N Y H locs) {x : Int32} (fl : Cond.fieldLink own ix "LanternBridge$State" "signs" "I" ∈ WT) (hdg : decode cc pc = .ok (.putfield ix, 3)) (kk : ∀ (H1 : Heap) (locs1 : List Loc), cHY A H0 dC dI ad cI cZ cW cJ (upR F 1 1 x) G P N Y H1 locs1 → W p l e Rm s m args below meth c H1 locs1 cells slots Q (F0 m (pc + 3) ls rest)) : W p l e Rm s m args below meth c H locs cells slots Q (F0 m pc ls (.int x :: .ref (ad 1) :: rest)) :=
  va_put (D := (dC, dI)) (ci := 7) (v := .int x) (ty := .int) (C := R_St) (T := F_St) (N := 15) hx hb hT uw_St ty_St ok_St nm_St hown hK h.1 h.2.1 h.2.2 1 rfl rfl 1 (by decide) (hT _ fl) (fun _ h9 => h9) rfl (by decide +kernel) rfl rfl (Nat.le_of_ble_eq_true rfl) hdg (fun H1 locs1 a1 a2 a3 => kk H1 locs1 ⟨a1, a2, a3⟩)
theorem cpY_1_2 (hx : p.tables.exec = Jvm.exec) (hb : c.code = cc) (hT : ∀ w ∈ WT, w.before args s = true) (hown : s.vm.findClass own = some m.cls) (hK : cK dC dI cI cZ cW cJ s) (h : cHY A H0 dC dI ad cI cZ cW cJ F G P N Y H locs) {a : Nat} (fl : Cond.fieldLink own ix "LanternBridge$State" "night" "LLanternBridge$Night;" ∈ WT) (hdg : decode cc pc = .ok (.putfield ix, 3)) (kk : ∀ (H1 : Heap) (locs1 : List Loc), cHY A H0 dC dI ad cI cZ cW cJ F G P (upN N 1 a) Y H1 locs1 → W p l e Rm s m args below meth c H1 locs1 cells slots Q (F0 m (pc + 3) ls rest)) : W p l e Rm s m args below meth c H locs cells slots Q (F0 m pc ls (.ref a :: .ref (ad 1) :: rest)) :=
  va_put (D := (dC, dI)) (ci := 7) (v := .ref a) (ty := .object "LanternBridge$Night") (C := R_St) (T := F_St) (N := 15) hx hb hT uw_St ty_St ok_St nm_St hown hK h.1 h.2.1 h.2.2 1 rfl rfl 2 (by decide) (hT _ fl) (fun _ h9 => h9) rfl (by decide +kernel) rfl rfl (Nat.le_of_ble_eq_true rfl) hdg (fun H1 locs1 a1 a2 a3 => kk H1 locs1 ⟨a1, a2, a3⟩)
theorem cpY_1_3 (hx : p.tables.exec = Jvm.exec) (hb : c.code = cc) (hT : ∀ w ∈ WT, w.before args s = true) (hown : s.vm.findClass own = some m.cls) (hK : cK dC dI cI cZ cW cJ s) (h : cHY A H0 dC dI ad cI cZ cW cJ F G P N Y H locs) {x : Int32} (fl : Cond.fieldLink own ix "LanternBridge$State" "nights" "I" ∈ WT) (hdg : decode cc pc = .ok (.putfield ix, 3)) (kk : ∀ (H1 : Heap) (locs1 : List Loc), cHY A H0 dC dI ad cI cZ cW cJ (upR F 1 3 x) G P N Y H1 locs1 → W p l e Rm s m args below meth c H1 locs1 cells slots Q (F0 m (pc + 3) ls rest)) : W p l e Rm s m args below meth c H locs cells slots Q (F0 m pc ls (.int x :: .ref (ad 1) :: rest)) :=
  va_put (D := (dC, dI)) (ci := 7) (v := .int x) (ty := .int) (C := R_St) (T := F_St) (N := 15) hx hb hT uw_St ty_St ok_St nm_St hown hK h.1 h.2.1 h.2.2 1 rfl rfl 3 (by decide) (hT _ fl) (fun _ h9 => h9) rfl (by decide +kernel) rfl rfl (Nat.le_of_ble_eq_true rfl) hdg (fun H1 locs1 a1 a2 a3 => kk H1 locs1 ⟨a1, a2, a3⟩)
theorem cpY_1_5 (hx : p.tables.exec = Jvm.exec) (hb : c.code = cc) (hT : ∀ w ∈ WT, w.before args s = true) (hown : s.vm.findClass own = some m.cls) (hK : cK dC dI cI cZ cW cJ s) (h : cHY A H0 dC dI ad cI cZ cW cJ F G P N Y H locs) {x : Int32} (fl : Cond.fieldLink own ix "LanternBridge$State" "size" "I" ∈ WT) (hdg : decode cc pc = .ok (.putfield ix, 3)) (kk : ∀ (H1 : Heap) (locs1 : List Loc), cHY A H0 dC dI ad cI cZ cW cJ (upR F 1 5 x) G P N Y H1 locs1 → W p l e Rm s m args below meth c H1 locs1 cells slots Q (F0 m (pc + 3) ls rest)) : W p l e Rm s m args below meth c H locs cells slots Q (F0 m pc ls (.int x :: .ref (ad 1) :: rest)) :=
  va_put (D := (dC, dI)) (ci := 7) (v := .int x) (ty := .int) (C := R_St) (T := F_St) (N := 15) hx hb hT uw_St ty_St ok_St nm_St hown hK h.1 h.2.1 h.2.2 1 rfl rfl 5 (by decide) (hT _ fl) (fun _ h9 => h9) rfl (by decide +kernel) rfl rfl (Nat.le_of_ble_eq_true rfl) hdg (fun H1 locs1 a1 a2 a3 => kk H1 locs1 ⟨a1, a2, a3⟩)
theorem cwY_8 (hx : p.tables.exec = Jvm.exec) (hb : c.code = cc) (hK : cK dC dI cI cZ cW cJ s) (h : cHY A H0 dC dI ad cI cZ cW cJ F G P N Y H locs) {i : Int32} {v : Nat} (hq : va_Any "LanternBridge$Walker" s H v) (hin : vp_in i 6) (hdg : decode cc pc = .ok (.aastore, 1)) (kk : ∀ (H1 : Heap) (locs1 : List Loc), cHY A H0 dC dI ad cI cZ cW cJ F G (upP P 8 i.toNatClampNeg (some v)) N Y H1 locs1 → W p l e Rm s m args below meth c H1 locs1 cells slots Q (F0 m (pc + 1) ls rest)) : W p l e Rm s m args below meth c H locs cells slots Q (F0 m pc ls (.ref v :: .int i :: .ref (ad 8) :: rest)) :=
  va_astqM (E := "LanternBridge$Walker") hx hb hK h.1 h.2.1 h.2.2 8 2 rfl rfl hq hin hdg (fun H1 locs1 a1 a2 a3 => kk H1 locs1 ⟨a1, a2, a3⟩)
end CY
theorem fixA_iff {ad : Nat → Nat} {cI cZ cW cJ : ClassId} {F G : Nat → Nat → Int32} {P : Nat → Nat → Option Nat} {N : Nat → Nat} {q : Nat} : fixA ad cI cZ cW cJ F G P N q ↔ q ∈ (List.range 26).map ad := by
  have h1 : (cX ad cI cZ cW cJ F G P N).map Prod.fst = (List.range 26).map ad := rfl
  rw [← h1]
  constructor
  · rintro ⟨k, e, hk⟩
    exact List.mem_map.mpr ⟨(q, e), List.mem_of_getElem? hk, rfl⟩
  · intro h
    obtain ⟨⟨a, e⟩, hm, rfl⟩ := List.mem_map.mp h
    obtain ⟨k, hk⟩ := List.getElem?_of_mem hm
    exact ⟨k, e, hk⟩
/-- an address of the pool -/
def inP (E : PE) (q : Nat) : Prop := eV E q = true ∨ ∃ a, eN E a = true ∧ (q = a ∨ q = eA E a 3 ∨ q = eA E a 5 ∨ q = eA E a 7 ∨ q = eA E a 8 ∨ q = eA E a 9)
/-- what is new in the pool is new in the heap -/
def pF (E E' : PE) (sz : Nat) : Prop := ∀ q, inP E' q → inP E q ∨ sz ≤ q
theorem pF.rf {E : PE} {sz : Nat} : pF E E sz := fun _ h => Or.inl h
theorem pF_addW {E : PE} {q ci sz : Nat} {d : Nat → Int32} (h : sz ≤ q) : pF E (addW E q ci d) sz := fun x hx => by
  rcases hx with hx | hx
  · by_cases e : x = q
    · subst e; exact Or.inr h
    · have h2 : (if x = q then true else E.1 x) = true := hx
      rw [if_neg e] at h2
      exact Or.inl (Or.inl h2)
  · exact Or.inl (Or.inr hx)
def aI (A : Nat → Prop) (ad : Nat → Nat) (sz : Nat) : Prop := ∀ q, A q → q ∈ (List.range 26).map ad ∨ sz ≤ q
theorem ap_ge {A : Nat → Prop} {ad : Nat → Nat} {sz : Nat} {cI cZ cW cJ : ClassId} {F G : Nat → Nat → Int32} {P : Nat → Nat → Option Nat} {N : Nat → Nat} {Y : va_W} (hI : aI A ad sz) (h : va_D A (cX ad cI cZ cW cJ F G P N ++ Y)) {k : Nat} {q : Nat × va_E} (hk : Y[k]? = some q) : sz ≤ q.1 := by
  have h1 : A q.1 := h.2 ((cX ad cI cZ cW cJ F G P N).length + k) q (by rw [List.getElem?_append_right (Nat.le_add_right _ _), Nat.add_sub_cancel_left]; exact hk)
  rcases hI q.1 h1 with h2 | h2
  · exact absurd (fixA_iff.mpr h2) (ap_ne h hk)
  · exact h2
/-- contracts of methods that may make cells: E comes out anew -/
def aB (dC : Nat → ClassId) (dI : Nat → Nat → Nat) (ad : Nat → Nat) (cI cZ cW cJ : ClassId) (A : Nat → Prop) (E : PE) (sz : Nat) : CU × PE → State → Prop := fun u t => va_P (dC, dI) CL (cX ad cI cZ cW cJ u.1.1 u.1.2.1 u.1.2.2.1 u.1.2.2.2) t.heap ∧ cK dC dI cI cZ cW cJ t ∧ va_D A (cX ad cI cZ cW cJ u.1.1 u.1.2.1 u.1.2.2.1 u.1.2.2.2) ∧ pS dC dI cI u.2 (fixA ad cI cZ cW cJ u.1.1 u.1.2.1 u.1.2.2.1 u.1.2.2.2) t.heap ∧ pF E u.2 sz
def CAi (l : Launch) (y : MethodName) (b : ByteArray) (n : Nat) (ty : FieldType) (rm : Room) (mc ms : Nat) (E : PE) (As : (Nat → Nat) → List Value) (F G : Nat → Nat → Int32) (P : Nat → Nat → Option Nat) (N : Nat → Nat) (post : Int32 → CU → PE → Prop) : Prop :=
  ∀ (dC : Nat → ClassId) (dI : Nat → Nat → Nat) (ad : Nat → Nat) (cI cZ cW cJ : ClassId) (adK adV : Nat → Nat) (sz : Nat), Met l y (Cond.code y b n (some ty) :: WT) rm (va_Pc (As ad) (cPre dC dI ad cI cZ cW cJ adK adV E F G P N sz)) (va_Qi (fun r (u : CU × PE) => post r u.1 u.2) (aB dC dI ad cI cZ cW cJ (va_A (cX ad cI cZ cW cJ F G P N) sz) E sz) (va_A (cX ad cI cZ cW cJ F G P N) sz)) mc ms (va_A (cX ad cI cZ cW cJ F G P N) sz)
abbrev aQi (dC : Nat → ClassId) (dI : Nat → Nat → Nat) (ad : Nat → Nat) (cI cZ cW cJ : ClassId) (A : Nat → Prop) (E : PE) (below : List Frame) (args : Array Value) (s : State) (mc ms : Nat) (post : Int32 → CU → PE → Prop) : State → Prop := MQ below (va_Qi (fun r (u : CU × PE) => post r u.1 u.2) (aB dC dI ad cI cZ cW cJ A E s.heap.size) A) args s mc ms A
section CZ
variable {p : Program} {l : Launch} {e : Env} {Rm rm : Room} {s : State} {m : MethodId} {args : Array Value} {below : List Frame} {meth : Method} {c : Code} {H : Heap} {locs : List Loc} {Q : State → Prop} {cc b : ByteArray} {n nL pc mc ms : Nat} {ls : Array Slot} {As : (Nat → Nat) → List Value} {dC : Nat → ClassId} {dI : Nat → Nat → Nat} {ad : Nat → Nat} {cI cZ cW cJ : ClassId} {F G : Nat → Nat → Int32} {P : Nat → Nat → Option Nat} {N : Nat → Nat} {A : Nat → Prop} {adK adV : Nat → Nat} {E E' : PE} {own : String} {y : MethodName} {ty : FieldType} {post : Int32 → CU → PE → Prop} {Y : va_W}
theorem en_ca (hy : plainName y.cls = true) (hlen : ∀ ad : Nat → Nat, (lg_sl (As ad)).length ≤ n) (body : ∀ (p : Program) (e : Env) (s : State) (m : MethodId) (args : Array Value) (below : List Frame) (meth : Method) (c : Code) (dC : Nat → ClassId) (dI : Nat → Nat → Nat) (ad : Nat → Nat) (cI cZ cW cJ : ClassId) (A : Nat → Prop) (adK adV : Nat → Nat) (ls : Array Slot), cC p s m args c b n y.cls dC dI cI cZ cW cJ A adK adV E → (∀ q, s.heap.size ≤ q → A q) → aI A ad s.heap.size → (∀ q, fixA ad cI cZ cW cJ F G P N q → A q) → cH A s.heap dC dI ad cI cZ cW cJ F G P N s.heap [] → meth.sig.returnType = some ty → meth.locks = false → lv_has ls n (lv_args 0 (As ad)) → W p l e rm s m args below meth c s.heap [] 0 0 (aQi dC dI ad cI cZ cW cJ A E below args s mc ms post) (F0 m 0 ls [])) : CAi l y b n ty rm mc ms E As F G P N post := by
  intro dC dI ad cI cZ cW cJ adK adV sz
  refine Met.ofW (cc := b) (maxL := n) (ret := some ty) hy rfl ?_
  intro p e s m args below meth c s₁ B hml hv
  obtain ⟨rfl, hsz, hP, hK, hD0, hTS, hTR, hPS, hIS⟩ := hv
  have hts := atoms_spec (ws := Cond.code y b n (some ty) :: WT) B.pre
  subst hsz
  obtain ⟨ls, hE, hl⟩ := en_ls m (As ad) (hlen ad)
  rw [hE]
  exact body p e s m _ below meth c dC dI ad cI cZ cW cJ (va_A (cX ad cI cZ cW cJ F G P N) s.heap.size) adK adV ls ⟨B.exec, B.bytes, hml, findClass_of_methodNamed B.named, fun w hw => hts w (List.mem_cons_of_mem _ hw), hK, hTS, hTR, hPS, hIS⟩ (fun q h => Or.inr h) (fun q h => h.elim (fun h => Or.inl (fixA_iff.mp h)) Or.inr) (fun q h => Or.inl h) ⟨hP, hD0.self, va_S.rf⟩ B.returns B.notSynchronized hl
theorem fixA_in {F' G' : Nat → Nat → Int32} {P' : Nat → Nat → Option Nat} {N' : Nat → Nat} (hD : va_D A (cX ad cI cZ cW cJ F G P N)) : ∀ q, fixA ad cI cZ cW cJ F G P N q → A q := fun q ⟨k, e, hk⟩ => hD.2 k _ hk
theorem rt_ca {x : Int32} (C : cC p s m args c cc nL own dC dI cI cZ cW cJ A adK adV E) (h : cH A s.heap dC dI ad cI cZ cW cJ F G P N H locs) (hr : meth.sig.returnType = some ty) (hlk : meth.locks = false) (hpost : post x (F, G, P, N) E) (hn : narrow ty (.int x) = .int x) (hdg : decode cc pc = .ok (.ireturn, 1)) : W p l e Rm s m args below meth c H locs 0 0 (aQi dC dI ad cI cZ cW cJ A E below args s mc ms post) (F0 m pc ls [.int x]) :=
  W.widen (Nat.zero_le mc) (Nat.zero_le ms) (W.zret C.1 C.2.1 hr hn (fun t ht hW => ⟨⟨x, ((F, G, P, N), E), rfl, hpost, by rw [ht]; exact h.1, va_K.moved hW.alike C.2.2.2.2.2.1, h.2.1, by rw [ht]; exact (C.2.2.2.2.2.2.2.2.1.kept h.2.2.2.1).narrow (fun q hq => h.2.1.2 _ _ hq.choose_spec.choose_spec), pF.rf⟩, h.2.2.F ht⟩) h.2.2.2.2 hdg hlk)
theorem rt_cy {x : Int32} (C : cC p s m args c cc nL own dC dI cI cZ cW cJ A adK adV E) (h : cHY A s.heap dC dI ad cI cZ cW cJ F G P N Y H locs) (hr : meth.sig.returnType = some ty) (hlk : meth.locks = false) (hpost : post x (F, G, P, N) E') (hpS : pS dC dI cI E' (fixA ad cI cZ cW cJ F G P N) H) (hF : pF E E' s.heap.size) (hn : narrow ty (.int x) = .int x) (hdg : decode cc pc = .ok (.ireturn, 1)) : W p l e Rm s m args below meth c H locs mc ms (aQi dC dI ad cI cZ cW cJ A E below args s mc ms post) (F0 m pc ls [.int x]) :=
  W.zret C.1 C.2.1 hr hn (fun t ht hW => ⟨⟨x, ((F, G, P, N), E'), rfl, hpost, by rw [ht]; exact ap_l h.1, va_K.moved hW.alike C.2.2.2.2.2.1, ap_lD h.2.1, by rw [ht]; exact hpS, hF⟩, h.2.2.F ht⟩) h.2.2.2.2 hdg hlk
/-- the old pool, at a later heap -/
theorem pS_old (C : cC p s m args c cc nL own dC dI cI cZ cW cJ A adK adV E) (h : cHY A s.heap dC dI ad cI cZ cW cJ F G P N Y H locs) : pS dC dI cI E (fixA ad cI cZ cW cJ F G P N) H := (C.2.2.2.2.2.2.2.2.1.kept h.2.2.2.1).narrow (fun q hq => (ap_lD h.2.1).2 _ _ hq.choose_spec.choose_spec)
end CZ
