/-! ===== Walkers ===== -/
section WR
variable {p : Program} {l : Launch} {e : Env} {Rm rm : Room} {s : State} {m : MethodId} {args : Array Value} {below : List Frame} {meth : Method} {c : Code} {H : Heap} {locs : List Loc} {cells slots : Nat} {Q : State → Prop} {cc b : ByteArray} {n nL pc ix na a ci : Nat} {ls : Array Slot} {rest st0 As : List Value} {y : MethodName} {ty : FieldType} {B : State → Prop} {dC : Nat → ClassId} {dI : Nat → Nat → Nat} {own : String} {tys : List (ClassId × FieldType)} {d : Nat → Int32}
theorem w_one {q : Nat × va_E} (h : va_at (dC, dI) CL q H) : va_P (dC, dI) CL [q] H := fun k r hk => by
  cases k with
  | zero => cases hk; exact h
  | succ k => simp at hk
theorem w_cases {P : Nat → Prop} (h0 : P 0) (h2 : P 2) (h3 : P 3) (h5 : P 5) (h8 : P 8) (h9 : P 9) (h10 : P 10) (h : ci ∈ wcl) : P ci := by
  simp only [wcl, List.mem_cons, List.not_mem_nil, or_false] at h
  rcases h with rfl | rfl | rfl | rfl | rfl | rfl | rfl <;> assumption
theorem wg_0 {ref : String} (hx : p.tables.exec = Jvm.exec) (hb : c.code = cc) (hT : ∀ w ∈ WT, w.before args s = true) (hown : s.vm.findClass own = some m.cls) (hK : va_K (dC, dI) CL tys s) (hci : ci ∈ wcl) (hw : va_at (dC, dI) CL (a, .inr (ci, wl d)) H) (fl : Cond.fieldLink own ix ref "kind" "I" ∈ WT) (hsm : ∀ x, s.fieldFound? "LanternBridge$Walker" "kind" "I" = some x → s.fieldFound? ref "kind" "I" = some x) (hdg : decode cc pc = .ok (.getfield ix, 3)) (kk : W p l e Rm s m args below meth c H locs cells slots Q (F0 m (pc + 3) ls (.int (d 0) :: rest))) : W p l e Rm s m args below meth c H locs cells slots Q (F0 m pc ls (.ref a :: rest)) := by
  revert hw
  refine w_cases (P := fun ci => va_at (dC, dI) CL (a, .inr (ci, wl d)) H → _) ?_ ?_ ?_ ?_ ?_ ?_ ?_ hci
  · intro hw; exact va_get (D := (dC, dI)) (ci := 0) (v := .int (d 0)) (C := R_Ca) (T := F_Ca) (N := 5) hx hb hT uw_Ca hown hK (w_one hw) 0 rfl rfl 0 (by decide) (hT _ fl) hsm rfl hdg kk
  · intro hw; exact va_get (D := (dC, dI)) (ci := 2) (v := .int (d 0)) (C := R_La) (T := F_La) (N := 5) hx hb hT uw_La hown hK (w_one hw) 0 rfl rfl 0 (by decide) (hT _ fl) hsm rfl hdg kk
  · intro hw; exact va_get (D := (dC, dI)) (ci := 3) (v := .int (d 0)) (C := R_Le) (T := F_Le) (N := 5) hx hb hT uw_Le hown hK (w_one hw) 0 rfl rfl 0 (by decide) (hT _ fl) hsm rfl hdg kk
  · intro hw; exact va_get (D := (dC, dI)) (ci := 5) (v := .int (d 0)) (C := R_Qu) (T := F_Qu) (N := 5) hx hb hT uw_Qu hown hK (w_one hw) 0 rfl rfl 0 (by decide) (hT _ fl) hsm rfl hdg kk
  · intro hw; exact va_get (D := (dC, dI)) (ci := 8) (v := .int (d 0)) (C := R_Ti) (T := F_Ti) (N := 5) hx hb hT uw_Ti hown hK (w_one hw) 0 rfl rfl 0 (by decide) (hT _ fl) hsm rfl hdg kk
  · intro hw; exact va_get (D := (dC, dI)) (ci := 9) (v := .int (d 0)) (C := R_Tr) (T := F_Tr) (N := 5) hx hb hT uw_Tr hown hK (w_one hw) 0 rfl rfl 0 (by decide) (hT _ fl) hsm rfl hdg kk
  · intro hw; exact va_get (D := (dC, dI)) (ci := 10) (v := .int (d 0)) (C := R_Wa) (T := F_Wa) (N := 5) hx hb hT uw_Wa hown hK (w_one hw) 0 rfl rfl 0 (by decide) (hT _ fl) hsm rfl hdg kk
theorem wg_1 {ref : String} (hx : p.tables.exec = Jvm.exec) (hb : c.code = cc) (hT : ∀ w ∈ WT, w.before args s = true) (hown : s.vm.findClass own = some m.cls) (hK : va_K (dC, dI) CL tys s) (hci : ci ∈ wcl) (hw : va_at (dC, dI) CL (a, .inr (ci, wl d)) H) (fl : Cond.fieldLink own ix ref "number" "I" ∈ WT) (hsm : ∀ x, s.fieldFound? "LanternBridge$Walker" "number" "I" = some x → s.fieldFound? ref "number" "I" = some x) (hdg : decode cc pc = .ok (.getfield ix, 3)) (kk : W p l e Rm s m args below meth c H locs cells slots Q (F0 m (pc + 3) ls (.int (d 1) :: rest))) : W p l e Rm s m args below meth c H locs cells slots Q (F0 m pc ls (.ref a :: rest)) := by
  revert hw
  refine w_cases (P := fun ci => va_at (dC, dI) CL (a, .inr (ci, wl d)) H → _) ?_ ?_ ?_ ?_ ?_ ?_ ?_ hci
  · intro hw; exact va_get (D := (dC, dI)) (ci := 0) (v := .int (d 1)) (C := R_Ca) (T := F_Ca) (N := 5) hx hb hT uw_Ca hown hK (w_one hw) 0 rfl rfl 1 (by decide) (hT _ fl) hsm rfl hdg kk
  · intro hw; exact va_get (D := (dC, dI)) (ci := 2) (v := .int (d 1)) (C := R_La) (T := F_La) (N := 5) hx hb hT uw_La hown hK (w_one hw) 0 rfl rfl 1 (by decide) (hT _ fl) hsm rfl hdg kk
  · intro hw; exact va_get (D := (dC, dI)) (ci := 3) (v := .int (d 1)) (C := R_Le) (T := F_Le) (N := 5) hx hb hT uw_Le hown hK (w_one hw) 0 rfl rfl 1 (by decide) (hT _ fl) hsm rfl hdg kk
  · intro hw; exact va_get (D := (dC, dI)) (ci := 5) (v := .int (d 1)) (C := R_Qu) (T := F_Qu) (N := 5) hx hb hT uw_Qu hown hK (w_one hw) 0 rfl rfl 1 (by decide) (hT _ fl) hsm rfl hdg kk
  · intro hw; exact va_get (D := (dC, dI)) (ci := 8) (v := .int (d 1)) (C := R_Ti) (T := F_Ti) (N := 5) hx hb hT uw_Ti hown hK (w_one hw) 0 rfl rfl 1 (by decide) (hT _ fl) hsm rfl hdg kk
  · intro hw; exact va_get (D := (dC, dI)) (ci := 9) (v := .int (d 1)) (C := R_Tr) (T := F_Tr) (N := 5) hx hb hT uw_Tr hown hK (w_one hw) 0 rfl rfl 1 (by decide) (hT _ fl) hsm rfl hdg kk
  · intro hw; exact va_get (D := (dC, dI)) (ci := 10) (v := .int (d 1)) (C := R_Wa) (T := F_Wa) (N := 5) hx hb hT uw_Wa hown hK (w_one hw) 0 rfl rfl 1 (by decide) (hT _ fl) hsm rfl hdg kk
theorem wg_2 {ref : String} (hx : p.tables.exec = Jvm.exec) (hb : c.code = cc) (hT : ∀ w ∈ WT, w.before args s = true) (hown : s.vm.findClass own = some m.cls) (hK : va_K (dC, dI) CL tys s) (hci : ci ∈ wcl) (hw : va_at (dC, dI) CL (a, .inr (ci, wl d)) H) (fl : Cond.fieldLink own ix ref "v" "I" ∈ WT) (hsm : ∀ x, s.fieldFound? "LanternBridge$Walker" "v" "I" = some x → s.fieldFound? ref "v" "I" = some x) (hdg : decode cc pc = .ok (.getfield ix, 3)) (kk : W p l e Rm s m args below meth c H locs cells slots Q (F0 m (pc + 3) ls (.int (d 2) :: rest))) : W p l e Rm s m args below meth c H locs cells slots Q (F0 m pc ls (.ref a :: rest)) := by
  revert hw
  refine w_cases (P := fun ci => va_at (dC, dI) CL (a, .inr (ci, wl d)) H → _) ?_ ?_ ?_ ?_ ?_ ?_ ?_ hci
  · intro hw; exact va_get (D := (dC, dI)) (ci := 0) (v := .int (d 2)) (C := R_Ca) (T := F_Ca) (N := 5) hx hb hT uw_Ca hown hK (w_one hw) 0 rfl rfl 2 (by decide) (hT _ fl) hsm rfl hdg kk
  · intro hw; exact va_get (D := (dC, dI)) (ci := 2) (v := .int (d 2)) (C := R_La) (T := F_La) (N := 5) hx hb hT uw_La hown hK (w_one hw) 0 rfl rfl 2 (by decide) (hT _ fl) hsm rfl hdg kk
  · intro hw; exact va_get (D := (dC, dI)) (ci := 3) (v := .int (d 2)) (C := R_Le) (T := F_Le) (N := 5) hx hb hT uw_Le hown hK (w_one hw) 0 rfl rfl 2 (by decide) (hT _ fl) hsm rfl hdg kk
  · intro hw; exact va_get (D := (dC, dI)) (ci := 5) (v := .int (d 2)) (C := R_Qu) (T := F_Qu) (N := 5) hx hb hT uw_Qu hown hK (w_one hw) 0 rfl rfl 2 (by decide) (hT _ fl) hsm rfl hdg kk
  · intro hw; exact va_get (D := (dC, dI)) (ci := 8) (v := .int (d 2)) (C := R_Ti) (T := F_Ti) (N := 5) hx hb hT uw_Ti hown hK (w_one hw) 0 rfl rfl 2 (by decide) (hT _ fl) hsm rfl hdg kk
  · intro hw; exact va_get (D := (dC, dI)) (ci := 9) (v := .int (d 2)) (C := R_Tr) (T := F_Tr) (N := 5) hx hb hT uw_Tr hown hK (w_one hw) 0 rfl rfl 2 (by decide) (hT _ fl) hsm rfl hdg kk
  · intro hw; exact va_get (D := (dC, dI)) (ci := 10) (v := .int (d 2)) (C := R_Wa) (T := F_Wa) (N := 5) hx hb hT uw_Wa hown hK (w_one hw) 0 rfl rfl 2 (by decide) (hT _ fl) hsm rfl hdg kk
theorem wg_3 {ref : String} (hx : p.tables.exec = Jvm.exec) (hb : c.code = cc) (hT : ∀ w ∈ WT, w.before args s = true) (hown : s.vm.findClass own = some m.cls) (hK : va_K (dC, dI) CL tys s) (hci : ci ∈ wcl) (hw : va_at (dC, dI) CL (a, .inr (ci, wl d)) H) (fl : Cond.fieldLink own ix ref "pace" "I" ∈ WT) (hsm : ∀ x, s.fieldFound? "LanternBridge$Walker" "pace" "I" = some x → s.fieldFound? ref "pace" "I" = some x) (hdg : decode cc pc = .ok (.getfield ix, 3)) (kk : W p l e Rm s m args below meth c H locs cells slots Q (F0 m (pc + 3) ls (.int (d 3) :: rest))) : W p l e Rm s m args below meth c H locs cells slots Q (F0 m pc ls (.ref a :: rest)) := by
  revert hw
  refine w_cases (P := fun ci => va_at (dC, dI) CL (a, .inr (ci, wl d)) H → _) ?_ ?_ ?_ ?_ ?_ ?_ ?_ hci
  · intro hw; exact va_get (D := (dC, dI)) (ci := 0) (v := .int (d 3)) (C := R_Ca) (T := F_Ca) (N := 5) hx hb hT uw_Ca hown hK (w_one hw) 0 rfl rfl 3 (by decide) (hT _ fl) hsm rfl hdg kk
  · intro hw; exact va_get (D := (dC, dI)) (ci := 2) (v := .int (d 3)) (C := R_La) (T := F_La) (N := 5) hx hb hT uw_La hown hK (w_one hw) 0 rfl rfl 3 (by decide) (hT _ fl) hsm rfl hdg kk
  · intro hw; exact va_get (D := (dC, dI)) (ci := 3) (v := .int (d 3)) (C := R_Le) (T := F_Le) (N := 5) hx hb hT uw_Le hown hK (w_one hw) 0 rfl rfl 3 (by decide) (hT _ fl) hsm rfl hdg kk
  · intro hw; exact va_get (D := (dC, dI)) (ci := 5) (v := .int (d 3)) (C := R_Qu) (T := F_Qu) (N := 5) hx hb hT uw_Qu hown hK (w_one hw) 0 rfl rfl 3 (by decide) (hT _ fl) hsm rfl hdg kk
  · intro hw; exact va_get (D := (dC, dI)) (ci := 8) (v := .int (d 3)) (C := R_Ti) (T := F_Ti) (N := 5) hx hb hT uw_Ti hown hK (w_one hw) 0 rfl rfl 3 (by decide) (hT _ fl) hsm rfl hdg kk
  · intro hw; exact va_get (D := (dC, dI)) (ci := 9) (v := .int (d 3)) (C := R_Tr) (T := F_Tr) (N := 5) hx hb hT uw_Tr hown hK (w_one hw) 0 rfl rfl 3 (by decide) (hT _ fl) hsm rfl hdg kk
  · intro hw; exact va_get (D := (dC, dI)) (ci := 10) (v := .int (d 3)) (C := R_Wa) (T := F_Wa) (N := 5) hx hb hT uw_Wa hown hK (w_one hw) 0 rfl rfl 3 (by decide) (hT _ fl) hsm rfl hdg kk
theorem wg_4 {ref : String} (hx : p.tables.exec = Jvm.exec) (hb : c.code = cc) (hT : ∀ w ∈ WT, w.before args s = true) (hown : s.vm.findClass own = some m.cls) (hK : va_K (dC, dI) CL tys s) (hci : ci ∈ wcl) (hw : va_at (dC, dI) CL (a, .inr (ci, wl d)) H) (fl : Cond.fieldLink own ix ref "weight" "I" ∈ WT) (hsm : ∀ x, s.fieldFound? "LanternBridge$Walker" "weight" "I" = some x → s.fieldFound? ref "weight" "I" = some x) (hdg : decode cc pc = .ok (.getfield ix, 3)) (kk : W p l e Rm s m args below meth c H locs cells slots Q (F0 m (pc + 3) ls (.int (d 4) :: rest))) : W p l e Rm s m args below meth c H locs cells slots Q (F0 m pc ls (.ref a :: rest)) := by
  revert hw
  refine w_cases (P := fun ci => va_at (dC, dI) CL (a, .inr (ci, wl d)) H → _) ?_ ?_ ?_ ?_ ?_ ?_ ?_ hci
  · intro hw; exact va_get (D := (dC, dI)) (ci := 0) (v := .int (d 4)) (C := R_Ca) (T := F_Ca) (N := 5) hx hb hT uw_Ca hown hK (w_one hw) 0 rfl rfl 4 (by decide) (hT _ fl) hsm rfl hdg kk
  · intro hw; exact va_get (D := (dC, dI)) (ci := 2) (v := .int (d 4)) (C := R_La) (T := F_La) (N := 5) hx hb hT uw_La hown hK (w_one hw) 0 rfl rfl 4 (by decide) (hT _ fl) hsm rfl hdg kk
  · intro hw; exact va_get (D := (dC, dI)) (ci := 3) (v := .int (d 4)) (C := R_Le) (T := F_Le) (N := 5) hx hb hT uw_Le hown hK (w_one hw) 0 rfl rfl 4 (by decide) (hT _ fl) hsm rfl hdg kk
  · intro hw; exact va_get (D := (dC, dI)) (ci := 5) (v := .int (d 4)) (C := R_Qu) (T := F_Qu) (N := 5) hx hb hT uw_Qu hown hK (w_one hw) 0 rfl rfl 4 (by decide) (hT _ fl) hsm rfl hdg kk
  · intro hw; exact va_get (D := (dC, dI)) (ci := 8) (v := .int (d 4)) (C := R_Ti) (T := F_Ti) (N := 5) hx hb hT uw_Ti hown hK (w_one hw) 0 rfl rfl 4 (by decide) (hT _ fl) hsm rfl hdg kk
  · intro hw; exact va_get (D := (dC, dI)) (ci := 9) (v := .int (d 4)) (C := R_Tr) (T := F_Tr) (N := 5) hx hb hT uw_Tr hown hK (w_one hw) 0 rfl rfl 4 (by decide) (hT _ fl) hsm rfl hdg kk
  · intro hw; exact va_get (D := (dC, dI)) (ci := 10) (v := .int (d 4)) (C := R_Wa) (T := F_Wa) (N := 5) hx hb hT uw_Wa hown hK (w_one hw) 0 rfl rfl 4 (by decide) (hT _ fl) hsm rfl hdg kk
theorem wrc (hK : va_K (dC, dI) CL tys s) (hci : ci ∈ wcl) (hw : va_at (dC, dI) CL (a, .inr (ci, wl d)) H) : ∃ cell : Cell, H[a]? = some cell ∧ cell.vm.isStatics = false ∧ s.vm.findClass (wNm ci) = some cell.cls := by
  revert hw
  refine w_cases (P := fun ci => va_at (dC, dI) CL (a, .inr (ci, wl d)) H → ∃ cell : Cell, H[a]? = some cell ∧ cell.vm.isStatics = false ∧ s.vm.findClass (wNm ci) = some cell.cls) ?_ ?_ ?_ ?_ ?_ ?_ ?_ hci
  · intro hw; exact va_recv hK (w_one hw) (ci := 0) (q0 := 0) rfl rfl
  · intro hw; exact va_recv hK (w_one hw) (ci := 2) (q0 := 0) rfl rfl
  · intro hw; exact va_recv hK (w_one hw) (ci := 3) (q0 := 0) rfl rfl
  · intro hw; exact va_recv hK (w_one hw) (ci := 5) (q0 := 0) rfl rfl
  · intro hw; exact va_recv hK (w_one hw) (ci := 8) (q0 := 0) rfl rfl
  · intro hw; exact va_recv hK (w_one hw) (ci := 9) (q0 := 0) rfl rfl
  · intro hw; exact va_recv hK (w_one hw) (ci := 10) (q0 := 0) rfl rfl
theorem w_any (hK : va_K (dC, dI) CL tys s) (hi : iS s) (hci : ci ∈ wcl) (hw : va_at (dC, dI) CL (a, .inr (ci, wl d)) H) : va_Any "LanternBridge$Walker" s H a := by
  obtain ⟨cell, h1, h2, h3⟩ := wrc hK hci hw
  obtain ⟨kC, hkC, -⟩ := Vm.findClass_spec h3
  obtain ⟨c0, t0, g1, g2, g3⟩ := hi ci hci 10 (by decide)
  have hu : wUn ci 10 = true := w_cases (P := fun ci => wUn ci 10 = true) rfl rfl rfl rfl rfl rfl rfl hci
  rw [hu] at g3
  rw [h3] at g1
  cases g1
  refine ⟨cell, h1, h2, ⟨kC, hkC⟩, fun comp hcomp => ?_⟩
  have e2 : (wNm 10) = "LanternBridge$Walker" := rfl
  rw [e2, hcomp] at g2
  cases g2
  exact g3
theorem w_inst {t : Nat} (hx : p.tables.exec = Jvm.exec) (hb : c.code = cc) (hT : ∀ w ∈ WT, w.before args s = true) (hown : s.vm.findClass own = some m.cls) (hK : va_K (dC, dI) CL tys s) (hi : iS s) (hci : ci ∈ wcl) (ht : t ∈ wcl) (hw : va_at (dC, dI) CL (a, .inr (ci, wl d)) H) (kl : Cond.classLink own ix (wNm t) ∈ WT) (hdg : decode cc pc = .ok (.instanceof ix, 3)) (kk : W p l e Rm s m args below meth c H locs cells slots Q (F0 m (pc + 3) ls (.int (if wUn ci t = true then 1 else 0) :: rest))) : W p l e Rm s m args below meth c H locs cells slots Q (F0 m pc ls (.ref a :: rest)) := by
  have hr := wrc hK hci hw
  have ha := hi ci hci t ht
  by_cases hu : wUn ci t = true
  · rw [hu] at ha
    rw [if_pos hu] at kk
    exact va_instY hx hb hown (hT _ kl) ha.yes hr hdg kk
  · rw [if_neg hu] at kk
    rw [Bool.not_eq_true _ |>.mp hu] at ha
    exact va_instNo hx hb hown (hT _ kl) ha hr hdg kk
def kB (dC : Nat → ClassId) (dI : Nat → Nat → Nat) (a ci : Nat) (d : Nat → Int32) : State → Prop := fun U => va_K (dC, dI) CL [] U ∧ va_at (dC, dI) CL (a, .inr (ci, wl d)) U.heap ∧ iS U
theorem kB_bl (as : Array Value) (U : State) (g : JFrame) (mk : MethodId) (h : kB dC dI a ci d U) : kB dC dI a ci d (U.calling g mk as) := ⟨va_K.moved (u := U) (U := U.calling g mk as) (Vm.Alike.refl U.vm) h.1, h.2.1, h.2.2.moved (u := U) (U := U.calling g mk as) (Vm.Alike.refl U.vm)⟩
theorem kB_to (hK : va_K (dC, dI) CL tys s) (hw : va_at (dC, dI) CL (a, .inr (ci, wl d)) H) (hi : iS s) (U : State) (hU : U.heap = H) (hW : s.WarmedH U.vm) : kB dC dI a ci d U := ⟨va_K.moved hW.alike (hK.sub [] rfl), by rw [hU]; exact hw, hi.moved hW.alike⟩
theorem goodO {C owner : String} {x : MethodName} {r : Option FieldType} (ml : Cond.methodLink own ix x ∈ WT) (sm : Cond.sameMethod x.cls owner x.name x.desc ∈ WT) (io : Cond.instanceMethod ⟨owner, x.name, x.desc⟩ ∈ WT) (se : Cond.selects C x y ∈ WT) (im : Cond.instanceMethod y ∈ WT) (ini : Cond.initialized y.cls ∈ WT) (cd : Cond.code y b n r ∈ WT) : GoodIn WT (va_wsO own ix C owner x y (Cond.code y b n r :: WT)) := by
  intro w hw
  rcases List.mem_append.mp hw with hw | hw
  · simp only [List.mem_cons, List.not_mem_nil, or_false] at hw
    rcases hw with rfl | rfl | rfl | rfl | rfl | rfl
    · exact ⟨ml, wt_good ml⟩
    · exact ⟨sm, wt_good sm⟩
    · exact ⟨io, wt_good io⟩
    · exact ⟨se, wt_good se⟩
    · exact ⟨im, wt_good im⟩
    · exact ⟨ini, wt_good ini⟩
  · exact goodW cd w hw
theorem goodS {r : Option FieldType} (ml : Cond.methodLink own ix y ∈ WT) (sm : Cond.sameMethod y.cls y.cls y.name y.desc ∈ WT) (su : Cond.superclass own y.cls ∈ WT) (im : Cond.instanceMethod y ∈ WT) (ini : Cond.initialized y.cls ∈ WT) (cd : Cond.code y b n r ∈ WT) : GoodIn WT (va_wsSU own ix y (Cond.code y b n r :: WT)) := by
  intro w hw
  rcases List.mem_append.mp hw with hw | hw
  · simp only [List.mem_cons, List.not_mem_nil, or_false] at hw
    rcases hw with rfl | rfl | rfl | rfl | rfl
    · exact ⟨ml, wt_good ml⟩
    · exact ⟨sm, wt_good sm⟩
    · exact ⟨su, wt_good su⟩
    · exact ⟨im, wt_good im⟩
    · exact ⟨ini, wt_good ini⟩
  · exact goodW cd w hw
/-- a virtual call of a reader, any override -/
theorem kr_u {z : Int32} {C owner : String} {x : MethodName} {b0 : Nat} (hx : p.tables.exec = Jvm.exec) (hb : c.code = cc) (hml : c.maxLocals = nL) (hown : s.vm.findClass own = some m.cls) (hT : ∀ w ∈ WT, w.before args s = true) (hbl : ∀ (a : Array Value) (U : State) (g : JFrame) (mk : MethodId), B U → B (U.calling g mk a)) (hB : ∀ U : State, U.heap = H → s.WarmedH U.vm → B U) (hrc : ∃ cell : Cell, H[b0]? = some cell ∧ cell.vm.isStatics = false ∧ s.vm.findClass C = some cell.cls)
    (hM : Met l y (Cond.code y b n (some ty) :: WT) rm (va_Pc (.ref b0 :: As) B) (fun _ st oc t => oc = .returned (some (.int z)) ∧ t.heap = st.heap) 0 0 (fun _ => False)) (cu : va_CU Rm s args own C owner ix x y b n (some ty) (Cond.code y b n (some ty) :: WT) rm 0 0 na)
    (hn : As.length = na) (hsz : ls.size = nL) (hst : st0 = As.reverse ++ .ref b0 :: rest) (hW : (rest.map fun v => v.category).sum ≤ 8) (hdg : decode cc pc = .ok (.invokevirtual ix, 3)) (hf : cells ≤ Rm.cells ∧ slots ≤ Rm.slots)
    (kk : W p l e Rm s m args below meth c H locs cells slots Q (F0 m (pc + 3) ls (.int z :: rest))) : W p l e Rm s m args below meth c H locs cells slots Q (F0 m pc ls st0) := by
  have hr := va_runU (l := l) (e := e) (R := Rm) (below := below) (meth := meth) (H := H) (locs := locs) (cells := cells) (slots := slots) (g := F0 m pc ls st0) (rest := rest) (C := C) (b := b0) (As := As) ⟨hx, hb, hml, hown, hT⟩ hM cu ⟨fun a U g mk q => ⟨q.1, hbl a U g mk q.2⟩, hrc, fun U hU hW => ⟨rfl, hB U hU hW⟩⟩ rfl hn hsz hst (lv_room hW) hdg hf
  intro T hT' X
  obtain ⟨v, st₀, t, T', L, h0, X', hL, e1, e2, ⟨hv, hh⟩, st⟩ := hr T hT' X
  cases hv
  have hL0 : L = [] := List.eq_nil_iff_forall_not_mem.mpr (fun q hq => hL q hq)
  subst hL0
  rw [List.append_nil] at X'
  obtain ⟨t2, a1, b1⟩ := kk T' (by rw [e1, hh, h0]) X'
  exact ⟨t2, st t2 a1, b1⟩
/-- a super call of a reader -/
theorem kr_su {z : Int32} {C : String} {cC : ClassId} {b0 : Nat} (hat : ClassAt s C cC) (hx : p.tables.exec = Jvm.exec) (hb : c.code = cc) (hml : c.maxLocals = nL) (hown : s.vm.findClass own = some m.cls) (hT : ∀ w ∈ WT, w.before args s = true) (hbl : ∀ (a : Array Value) (U : State) (g : JFrame) (mk : MethodId), B U → B (U.calling g mk a)) (hB : ∀ U : State, U.heap = H → s.WarmedH U.vm → B U) (hrc : ∃ cell : Cell, H[b0]? = some cell ∧ cell.vm.isStatics = false ∧ s.vm.findClass C = some cell.cls)
    (hM : Met l y (Cond.code y b n (some ty) :: WT) rm (va_Pc (.ref b0 :: As) B) (fun _ st oc t => oc = .returned (some (.int z)) ∧ t.heap = st.heap) 0 0 (fun _ => False)) (cu : va_CS Rm s args own ix y b n (some ty) (Cond.code y b n (some ty) :: WT) rm 0 0 na)
    (hn : As.length = na) (hsz : ls.size = nL) (hst : st0 = As.reverse ++ .ref b0 :: rest) (hW : (rest.map fun v => v.category).sum ≤ 8) (hdg : decode cc pc = .ok (.invokespecial ix, 3)) (hf : cells ≤ Rm.cells ∧ slots ≤ Rm.slots)
    (kk : W p l e Rm s m args below meth c H locs cells slots Q (F0 m (pc + 3) ls (.int z :: rest))) : W p l e Rm s m args below meth c H locs cells slots Q (F0 m pc ls st0) := by
  have hr := va_runSU (l := l) (e := e) (R := Rm) (below := below) (meth := meth) (H := H) (locs := locs) (cells := cells) (slots := slots) (g := F0 m pc ls st0) (rest := rest) (C := C) (b := b0) (As := As) hat ⟨hx, hb, hml, hown, hT⟩ hM cu ⟨fun a U g mk q => ⟨q.1, hbl a U g mk q.2⟩, hrc, fun U hU hW => ⟨rfl, hB U hU hW⟩⟩ rfl hn hsz hst (lv_room hW) hdg hf
  intro T hT' X
  obtain ⟨v, st₀, t, T', L, h0, X', hL, e1, e2, ⟨hv, hh⟩, st⟩ := hr T hT' X
  cases hv
  have hL0 : L = [] := List.eq_nil_iff_forall_not_mem.mpr (fun q hq => hL q hq)
  subst hL0
  rw [List.append_nil] at X'
  obtain ⟨t2, a1, b1⟩ := kk T' (by rw [e1, hh, h0]) X'
  exact ⟨t2, st t2 a1, b1⟩
theorem w_classAt (hK : va_K (dC, dI) CL tys s) (hci : ci ∈ wcl) : ∃ cC, ClassAt s (wNm ci) cC := by
  refine w_cases (P := fun ci => ∃ cC, ClassAt s (wNm ci) cC) ?_ ?_ ?_ ?_ ?_ ?_ ?_ hci
  · exact ⟨_, (hK.1 0 _ rfl).2⟩
  · exact ⟨_, (hK.1 2 _ rfl).2⟩
  · exact ⟨_, (hK.1 3 _ rfl).2⟩
  · exact ⟨_, (hK.1 5 _ rfl).2⟩
  · exact ⟨_, (hK.1 8 _ rfl).2⟩
  · exact ⟨_, (hK.1 9 _ rfl).2⟩
  · exact ⟨_, (hK.1 10 _ rfl).2⟩
theorem rt_sq {z : Option Nat} {T0 : String} (hx : p.tables.exec = Jvm.exec) (hb : c.code = cc) (hr : meth.sig.returnType = some (.object T0)) (hlk : meth.locks = false) (hdg : decode cc pc = .ok (.areturn, 1)) : W p l e Rm s m args below meth c s.heap [] 0 0 (MQ below (fun _ st oc t => oc = .returned (some (va_rf z)) ∧ t.heap = st.heap) args s 0 0 (fun _ => False)) (F0 m pc ls [va_rf z]) :=
  W.aret hx hb hr (Or.inl ⟨_, rfl⟩) (by cases z with | none => exact Or.inl rfl | some v => exact Or.inr ⟨v, rfl⟩) (fun t ht _ => ⟨rfl, ht⟩) (fun q hq => by cases hq) hdg hlk
end WR
theorem op_en {α β : Type} {x : β} {f : α → β} {z : β} (h : Option.elim none x f = z) : x = z := h
theorem op_es {α β : Type} {a : α} {x : β} {f : α → β} {z : β} (h : Option.elim (some a) x f = z) : f a = z := h
/-! ===== a finished Night, and a row of facts beside it ===== -/
def qX (ad : Nat → Nat) (cI : ClassId) (tl : Nat) (I : Nat → Int32) (R : Nat → Nat → Int32) (af : Nat) (fc : Nat → Int32) : va_W :=
  [(ad 0, .inr (4, [.int (I 0), .int (I 1), .int (I 2), .ref (ad 3), .int (I 4), .ref (ad 5), .int (I 6), .ref (ad 7), .ref (ad 8), .ref (ad 9), .int (I 10)])),
   (ad 3, .inl (cI, tl, .inl (R 3))),
   (ad 5, .inl (cI, tl, .inl (R 5))),
   (ad 7, .inl (cI, 10, .inl (R 7))),
   (ad 8, .inl (cI, 10, .inl (R 8))),
   (ad 9, .inl (cI, 10, .inl (R 9))),
   (af, .inl (cI, 6, .inl fc))]
def qB (dC : Nat → ClassId) (dI : Nat → Nat → Nat) (ad : Nat → Nat) (cI : ClassId) (af : Nat) (tl : Nat) (I : Nat → Int32) (R : Nat → Nat → Int32) (fc : Nat → Int32) : State → Prop := fun U => va_K (dC, dI) CL [(cI, .int)] U ∧ va_P (dC, dI) CL (qX ad cI tl I R af fc) U.heap
section QR
variable {p : Program} {l : Launch} {e : Env} {Rm : Room} {s : State} {m : MethodId} {args : Array Value} {below : List Frame} {meth : Method} {c : Code} {H : Heap} {locs : List Loc} {cells slots : Nat} {Q : State → Prop} {cc : ByteArray} {nL pc ix : Nat} {ls : Array Slot} {rest : List Value} {dC : Nat → ClassId} {dI : Nat → Nat → Nat} {ad : Nat → Nat} {cI : ClassId} {tl af : Nat} {I : Nat → Int32} {R : Nat → Nat → Int32} {fc : Nat → Int32} {own : String}
theorem qB_bl (as : Array Value) (U : State) (g : JFrame) (mk : MethodId) (h : qB dC dI ad cI af tl I R fc U) : qB dC dI ad cI af tl I R fc (U.calling g mk as) := ⟨va_K.moved (u := U) (U := U.calling g mk as) (Vm.Alike.refl U.vm) h.1, h.2⟩
theorem qB_to (hK : va_K (dC, dI) CL [(cI, .int)] s) (hP : va_P (dC, dI) CL (qX ad cI tl I R af fc) H) (U : State) (hU : U.heap = H) (hW : s.WarmedH U.vm) : qB dC dI ad cI af tl I R fc U := ⟨va_K.moved hW.alike hK, by rw [hU]; exact hP⟩
theorem qX_of (h1 : va_P (dC, dI) CL (nX ad cI tl I R) H) (h2 : va_at (dC, dI) CL (af, .inl (cI, 6, .inl fc)) H) : va_P (dC, dI) CL (qX ad cI tl I R af fc) H := fun k q hk => by
  rcases k with _ | _ | _ | _ | _ | _ | _ | k
  · exact h1 0 q hk
  · exact h1 1 q hk
  · exact h1 2 q hk
  · exact h1 3 q hk
  · exact h1 4 q hk
  · exact h1 5 q hk
  · cases hk; exact h2
  · simp [qX] at hk
theorem qg_0 (hx : p.tables.exec = Jvm.exec) (hb : c.code = cc) (hT : ∀ w ∈ WT, w.before args s = true) (hown : s.vm.findClass own = some m.cls) (hK : va_K (dC, dI) CL [(cI, .int)] s) (hP : va_P (dC, dI) CL (qX ad cI tl I R af fc) H) (fl : Cond.fieldLink own ix "LanternBridge$Night" "bears" "I" ∈ WT) (hdg : decode cc pc = .ok (.getfield ix, 3)) (kk : W p l e Rm s m args below meth c H locs cells slots Q (F0 m (pc + 3) ls (.int (I 0) :: rest))) : W p l e Rm s m args below meth c H locs cells slots Q (F0 m pc ls (.ref (ad 0) :: rest)) :=
  va_get (D := (dC, dI)) (ci := 4) (v := .int (I 0)) (C := R_Ni) (T := F_Ni) (N := 11) hx hb hT uw_Ni hown hK hP 0 rfl rfl 0 (by decide) (hT _ fl) (fun _ h9 => h9) rfl hdg kk
theorem eg_0 (hx : p.tables.exec = Jvm.exec) (hb : c.code = cc) (hT : ∀ w ∈ WT, w.before args s = true) (hown : s.vm.findClass own = some m.cls) {tys : List (ClassId × FieldType)} {a : Nat} {E : PE} (hK : va_K (dC, dI) CL tys s) (hP : va_P (dC, dI) CL (nX (nAd E a) cI (eT E a) (eI E a) (eR E a)) H) (fl : Cond.fieldLink own ix "LanternBridge$Night" "bears" "I" ∈ WT) (hdg : decode cc pc = .ok (.getfield ix, 3)) (kk : W p l e Rm s m args below meth c H locs cells slots Q (F0 m (pc + 3) ls (.int (eI E a 0) :: rest))) : W p l e Rm s m args below meth c H locs cells slots Q (F0 m pc ls (.ref a :: rest)) :=
  va_get (D := (dC, dI)) (a := nAd E a 0) (ci := 4) (v := .int (eI E a 0)) (C := R_Ni) (T := F_Ni) (N := 11) hx hb hT uw_Ni hown hK hP 0 rfl rfl 0 (by decide) (hT _ fl) (fun _ h9 => h9) rfl hdg kk
theorem qg_1 (hx : p.tables.exec = Jvm.exec) (hb : c.code = cc) (hT : ∀ w ∈ WT, w.before args s = true) (hown : s.vm.findClass own = some m.cls) (hK : va_K (dC, dI) CL [(cI, .int)] s) (hP : va_P (dC, dI) CL (qX ad cI tl I R af fc) H) (fl : Cond.fieldLink own ix "LanternBridge$Night" "heavy" "I" ∈ WT) (hdg : decode cc pc = .ok (.getfield ix, 3)) (kk : W p l e Rm s m args below meth c H locs cells slots Q (F0 m (pc + 3) ls (.int (I 1) :: rest))) : W p l e Rm s m args below meth c H locs cells slots Q (F0 m pc ls (.ref (ad 0) :: rest)) :=
  va_get (D := (dC, dI)) (ci := 4) (v := .int (I 1)) (C := R_Ni) (T := F_Ni) (N := 11) hx hb hT uw_Ni hown hK hP 0 rfl rfl 1 (by decide) (hT _ fl) (fun _ h9 => h9) rfl hdg kk
theorem eg_1 (hx : p.tables.exec = Jvm.exec) (hb : c.code = cc) (hT : ∀ w ∈ WT, w.before args s = true) (hown : s.vm.findClass own = some m.cls) {tys : List (ClassId × FieldType)} {a : Nat} {E : PE} (hK : va_K (dC, dI) CL tys s) (hP : va_P (dC, dI) CL (nX (nAd E a) cI (eT E a) (eI E a) (eR E a)) H) (fl : Cond.fieldLink own ix "LanternBridge$Night" "heavy" "I" ∈ WT) (hdg : decode cc pc = .ok (.getfield ix, 3)) (kk : W p l e Rm s m args below meth c H locs cells slots Q (F0 m (pc + 3) ls (.int (eI E a 1) :: rest))) : W p l e Rm s m args below meth c H locs cells slots Q (F0 m pc ls (.ref a :: rest)) :=
  va_get (D := (dC, dI)) (a := nAd E a 0) (ci := 4) (v := .int (eI E a 1)) (C := R_Ni) (T := F_Ni) (N := 11) hx hb hT uw_Ni hown hK hP 0 rfl rfl 1 (by decide) (hT _ fl) (fun _ h9 => h9) rfl hdg kk
theorem qg_2 (hx : p.tables.exec = Jvm.exec) (hb : c.code = cc) (hT : ∀ w ∈ WT, w.before args s = true) (hown : s.vm.findClass own = some m.cls) (hK : va_K (dC, dI) CL [(cI, .int)] s) (hP : va_P (dC, dI) CL (qX ad cI tl I R af fc) H) (fl : Cond.fieldLink own ix "LanternBridge$Night" "oil" "I" ∈ WT) (hdg : decode cc pc = .ok (.getfield ix, 3)) (kk : W p l e Rm s m args below meth c H locs cells slots Q (F0 m (pc + 3) ls (.int (I 2) :: rest))) : W p l e Rm s m args below meth c H locs cells slots Q (F0 m pc ls (.ref (ad 0) :: rest)) :=
  va_get (D := (dC, dI)) (ci := 4) (v := .int (I 2)) (C := R_Ni) (T := F_Ni) (N := 11) hx hb hT uw_Ni hown hK hP 0 rfl rfl 2 (by decide) (hT _ fl) (fun _ h9 => h9) rfl hdg kk
theorem eg_2 (hx : p.tables.exec = Jvm.exec) (hb : c.code = cc) (hT : ∀ w ∈ WT, w.before args s = true) (hown : s.vm.findClass own = some m.cls) {tys : List (ClassId × FieldType)} {a : Nat} {E : PE} (hK : va_K (dC, dI) CL tys s) (hP : va_P (dC, dI) CL (nX (nAd E a) cI (eT E a) (eI E a) (eR E a)) H) (fl : Cond.fieldLink own ix "LanternBridge$Night" "oil" "I" ∈ WT) (hdg : decode cc pc = .ok (.getfield ix, 3)) (kk : W p l e Rm s m args below meth c H locs cells slots Q (F0 m (pc + 3) ls (.int (eI E a 2) :: rest))) : W p l e Rm s m args below meth c H locs cells slots Q (F0 m pc ls (.ref a :: rest)) :=
  va_get (D := (dC, dI)) (a := nAd E a 0) (ci := 4) (v := .int (eI E a 2)) (C := R_Ni) (T := F_Ni) (N := 11) hx hb hT uw_Ni hown hK hP 0 rfl rfl 2 (by decide) (hT _ fl) (fun _ h9 => h9) rfl hdg kk
theorem qg_3 (hx : p.tables.exec = Jvm.exec) (hb : c.code = cc) (hT : ∀ w ∈ WT, w.before args s = true) (hown : s.vm.findClass own = some m.cls) (hK : va_K (dC, dI) CL [(cI, .int)] s) (hP : va_P (dC, dI) CL (qX ad cI tl I R af fc) H) (fl : Cond.fieldLink own ix "LanternBridge$Night" "text" "[I" ∈ WT) (hdg : decode cc pc = .ok (.getfield ix, 3)) (kk : W p l e Rm s m args below meth c H locs cells slots Q (F0 m (pc + 3) ls (.ref (ad 3) :: rest))) : W p l e Rm s m args below meth c H locs cells slots Q (F0 m pc ls (.ref (ad 0) :: rest)) :=
  va_get (D := (dC, dI)) (ci := 4) (v := .ref (ad 3)) (C := R_Ni) (T := F_Ni) (N := 11) hx hb hT uw_Ni hown hK hP 0 rfl rfl 3 (by decide) (hT _ fl) (fun _ h9 => h9) rfl hdg kk
theorem qg_4 (hx : p.tables.exec = Jvm.exec) (hb : c.code = cc) (hT : ∀ w ∈ WT, w.before args s = true) (hown : s.vm.findClass own = some m.cls) (hK : va_K (dC, dI) CL [(cI, .int)] s) (hP : va_P (dC, dI) CL (qX ad cI tl I R af fc) H) (fl : Cond.fieldLink own ix "LanternBridge$Night" "at" "I" ∈ WT) (hdg : decode cc pc = .ok (.getfield ix, 3)) (kk : W p l e Rm s m args below meth c H locs cells slots Q (F0 m (pc + 3) ls (.int (I 4) :: rest))) : W p l e Rm s m args below meth c H locs cells slots Q (F0 m pc ls (.ref (ad 0) :: rest)) :=
  va_get (D := (dC, dI)) (ci := 4) (v := .int (I 4)) (C := R_Ni) (T := F_Ni) (N := 11) hx hb hT uw_Ni hown hK hP 0 rfl rfl 4 (by decide) (hT _ fl) (fun _ h9 => h9) rfl hdg kk
theorem eg_4 (hx : p.tables.exec = Jvm.exec) (hb : c.code = cc) (hT : ∀ w ∈ WT, w.before args s = true) (hown : s.vm.findClass own = some m.cls) {tys : List (ClassId × FieldType)} {a : Nat} {E : PE} (hK : va_K (dC, dI) CL tys s) (hP : va_P (dC, dI) CL (nX (nAd E a) cI (eT E a) (eI E a) (eR E a)) H) (fl : Cond.fieldLink own ix "LanternBridge$Night" "at" "I" ∈ WT) (hdg : decode cc pc = .ok (.getfield ix, 3)) (kk : W p l e Rm s m args below meth c H locs cells slots Q (F0 m (pc + 3) ls (.int (eI E a 4) :: rest))) : W p l e Rm s m args below meth c H locs cells slots Q (F0 m pc ls (.ref a :: rest)) :=
  va_get (D := (dC, dI)) (a := nAd E a 0) (ci := 4) (v := .int (eI E a 4)) (C := R_Ni) (T := F_Ni) (N := 11) hx hb hT uw_Ni hown hK hP 0 rfl rfl 4 (by decide) (hT _ fl) (fun _ h9 => h9) rfl hdg kk
theorem qg_5 (hx : p.tables.exec = Jvm.exec) (hb : c.code = cc) (hT : ∀ w ∈ WT, w.before args s = true) (hown : s.vm.findClass own = some m.cls) (hK : va_K (dC, dI) CL [(cI, .int)] s) (hP : va_P (dC, dI) CL (qX ad cI tl I R af fc) H) (fl : Cond.fieldLink own ix "LanternBridge$Night" "code" "[I" ∈ WT) (hdg : decode cc pc = .ok (.getfield ix, 3)) (kk : W p l e Rm s m args below meth c H locs cells slots Q (F0 m (pc + 3) ls (.ref (ad 5) :: rest))) : W p l e Rm s m args below meth c H locs cells slots Q (F0 m pc ls (.ref (ad 0) :: rest)) :=
  va_get (D := (dC, dI)) (ci := 4) (v := .ref (ad 5)) (C := R_Ni) (T := F_Ni) (N := 11) hx hb hT uw_Ni hown hK hP 0 rfl rfl 5 (by decide) (hT _ fl) (fun _ h9 => h9) rfl hdg kk
theorem qg_6 (hx : p.tables.exec = Jvm.exec) (hb : c.code = cc) (hT : ∀ w ∈ WT, w.before args s = true) (hown : s.vm.findClass own = some m.cls) (hK : va_K (dC, dI) CL [(cI, .int)] s) (hP : va_P (dC, dI) CL (qX ad cI tl I R af fc) H) (fl : Cond.fieldLink own ix "LanternBridge$Night" "codeSize" "I" ∈ WT) (hdg : decode cc pc = .ok (.getfield ix, 3)) (kk : W p l e Rm s m args below meth c H locs cells slots Q (F0 m (pc + 3) ls (.int (I 6) :: rest))) : W p l e Rm s m args below meth c H locs cells slots Q (F0 m pc ls (.ref (ad 0) :: rest)) :=
  va_get (D := (dC, dI)) (ci := 4) (v := .int (I 6)) (C := R_Ni) (T := F_Ni) (N := 11) hx hb hT uw_Ni hown hK hP 0 rfl rfl 6 (by decide) (hT _ fl) (fun _ h9 => h9) rfl hdg kk
theorem eg_6 (hx : p.tables.exec = Jvm.exec) (hb : c.code = cc) (hT : ∀ w ∈ WT, w.before args s = true) (hown : s.vm.findClass own = some m.cls) {tys : List (ClassId × FieldType)} {a : Nat} {E : PE} (hK : va_K (dC, dI) CL tys s) (hP : va_P (dC, dI) CL (nX (nAd E a) cI (eT E a) (eI E a) (eR E a)) H) (fl : Cond.fieldLink own ix "LanternBridge$Night" "codeSize" "I" ∈ WT) (hdg : decode cc pc = .ok (.getfield ix, 3)) (kk : W p l e Rm s m args below meth c H locs cells slots Q (F0 m (pc + 3) ls (.int (eI E a 6) :: rest))) : W p l e Rm s m args below meth c H locs cells slots Q (F0 m pc ls (.ref a :: rest)) :=
  va_get (D := (dC, dI)) (a := nAd E a 0) (ci := 4) (v := .int (eI E a 6)) (C := R_Ni) (T := F_Ni) (N := 11) hx hb hT uw_Ni hown hK hP 0 rfl rfl 6 (by decide) (hT _ fl) (fun _ h9 => h9) rfl hdg kk
theorem qg_7 (hx : p.tables.exec = Jvm.exec) (hb : c.code = cc) (hT : ∀ w ∈ WT, w.before args s = true) (hown : s.vm.findClass own = some m.cls) (hK : va_K (dC, dI) CL [(cI, .int)] s) (hP : va_P (dC, dI) CL (qX ad cI tl I R af fc) H) (fl : Cond.fieldLink own ix "LanternBridge$Night" "word" "[I" ∈ WT) (hdg : decode cc pc = .ok (.getfield ix, 3)) (kk : W p l e Rm s m args below meth c H locs cells slots Q (F0 m (pc + 3) ls (.ref (ad 7) :: rest))) : W p l e Rm s m args below meth c H locs cells slots Q (F0 m pc ls (.ref (ad 0) :: rest)) :=
  va_get (D := (dC, dI)) (ci := 4) (v := .ref (ad 7)) (C := R_Ni) (T := F_Ni) (N := 11) hx hb hT uw_Ni hown hK hP 0 rfl rfl 7 (by decide) (hT _ fl) (fun _ h9 => h9) rfl hdg kk
theorem qg_8 (hx : p.tables.exec = Jvm.exec) (hb : c.code = cc) (hT : ∀ w ∈ WT, w.before args s = true) (hown : s.vm.findClass own = some m.cls) (hK : va_K (dC, dI) CL [(cI, .int)] s) (hP : va_P (dC, dI) CL (qX ad cI tl I R af fc) H) (fl : Cond.fieldLink own ix "LanternBridge$Night" "number" "[I" ∈ WT) (hdg : decode cc pc = .ok (.getfield ix, 3)) (kk : W p l e Rm s m args below meth c H locs cells slots Q (F0 m (pc + 3) ls (.ref (ad 8) :: rest))) : W p l e Rm s m args below meth c H locs cells slots Q (F0 m pc ls (.ref (ad 0) :: rest)) :=
  va_get (D := (dC, dI)) (ci := 4) (v := .ref (ad 8)) (C := R_Ni) (T := F_Ni) (N := 11) hx hb hT uw_Ni hown hK hP 0 rfl rfl 8 (by decide) (hT _ fl) (fun _ h9 => h9) rfl hdg kk
theorem qg_9 (hx : p.tables.exec = Jvm.exec) (hb : c.code = cc) (hT : ∀ w ∈ WT, w.before args s = true) (hown : s.vm.findClass own = some m.cls) (hK : va_K (dC, dI) CL [(cI, .int)] s) (hP : va_P (dC, dI) CL (qX ad cI tl I R af fc) H) (fl : Cond.fieldLink own ix "LanternBridge$Night" "codeEnd" "[I" ∈ WT) (hdg : decode cc pc = .ok (.getfield ix, 3)) (kk : W p l e Rm s m args below meth c H locs cells slots Q (F0 m (pc + 3) ls (.ref (ad 9) :: rest))) : W p l e Rm s m args below meth c H locs cells slots Q (F0 m pc ls (.ref (ad 0) :: rest)) :=
  va_get (D := (dC, dI)) (ci := 4) (v := .ref (ad 9)) (C := R_Ni) (T := F_Ni) (N := 11) hx hb hT uw_Ni hown hK hP 0 rfl rfl 9 (by decide) (hT _ fl) (fun _ h9 => h9) rfl hdg kk
theorem qg_10 (hx : p.tables.exec = Jvm.exec) (hb : c.code = cc) (hT : ∀ w ∈ WT, w.before args s = true) (hown : s.vm.findClass own = some m.cls) (hK : va_K (dC, dI) CL [(cI, .int)] s) (hP : va_P (dC, dI) CL (qX ad cI tl I R af fc) H) (fl : Cond.fieldLink own ix "LanternBridge$Night" "clauses" "I" ∈ WT) (hdg : decode cc pc = .ok (.getfield ix, 3)) (kk : W p l e Rm s m args below meth c H locs cells slots Q (F0 m (pc + 3) ls (.int (I 10) :: rest))) : W p l e Rm s m args below meth c H locs cells slots Q (F0 m pc ls (.ref (ad 0) :: rest)) :=
  va_get (D := (dC, dI)) (ci := 4) (v := .int (I 10)) (C := R_Ni) (T := F_Ni) (N := 11) hx hb hT uw_Ni hown hK hP 0 rfl rfl 10 (by decide) (hT _ fl) (fun _ h9 => h9) rfl hdg kk
theorem eg_10 (hx : p.tables.exec = Jvm.exec) (hb : c.code = cc) (hT : ∀ w ∈ WT, w.before args s = true) (hown : s.vm.findClass own = some m.cls) {tys : List (ClassId × FieldType)} {a : Nat} {E : PE} (hK : va_K (dC, dI) CL tys s) (hP : va_P (dC, dI) CL (nX (nAd E a) cI (eT E a) (eI E a) (eR E a)) H) (fl : Cond.fieldLink own ix "LanternBridge$Night" "clauses" "I" ∈ WT) (hdg : decode cc pc = .ok (.getfield ix, 3)) (kk : W p l e Rm s m args below meth c H locs cells slots Q (F0 m (pc + 3) ls (.int (eI E a 10) :: rest))) : W p l e Rm s m args below meth c H locs cells slots Q (F0 m pc ls (.ref a :: rest)) :=
  va_get (D := (dC, dI)) (a := nAd E a 0) (ci := 4) (v := .int (eI E a 10)) (C := R_Ni) (T := F_Ni) (N := 11) hx hb hT uw_Ni hown hK hP 0 rfl rfl 10 (by decide) (hT _ fl) (fun _ h9 => h9) rfl hdg kk
theorem qa_3 (hx : p.tables.exec = Jvm.exec) (hb : c.code = cc) (hK : va_K (dC, dI) CL [(cI, .int)] s) (hP : va_P (dC, dI) CL (qX ad cI tl I R af fc) H) {i : Int32} {j : Nat} (hj : i.toNatClampNeg = j) (hin : vp_in i tl) (hdg : decode cc pc = .ok (.iaload, 1)) (kk : W p l e Rm s m args below meth c H locs cells slots Q (F0 m (pc + 1) ls (.int (R 3 j) :: rest))) : W p l e Rm s m args below meth c H locs cells slots Q (F0 m pc ls (.int i :: .ref (ad 3) :: rest)) :=
  by subst hj; exact va_iald hx hb hK hP 1 0 rfl rfl hin hdg kk
theorem ql_3 (hx : p.tables.exec = Jvm.exec) (hb : c.code = cc) (hK : va_K (dC, dI) CL [(cI, .int)] s) (hP : va_P (dC, dI) CL (qX ad cI tl I R af fc) H) (hdg : decode cc pc = .ok (.arraylength, 1)) (kk : W p l e Rm s m args below meth c H locs cells slots Q (F0 m (pc + 1) ls (.int (nI tl) :: rest))) : W p l e Rm s m args below meth c H locs cells slots Q (F0 m pc ls (.ref (ad 3) :: rest)) :=
  va_alen hx hb hK hP 1 0 rfl rfl rfl hdg kk
theorem qa_5 (hx : p.tables.exec = Jvm.exec) (hb : c.code = cc) (hK : va_K (dC, dI) CL [(cI, .int)] s) (hP : va_P (dC, dI) CL (qX ad cI tl I R af fc) H) {i : Int32} {j : Nat} (hj : i.toNatClampNeg = j) (hin : vp_in i tl) (hdg : decode cc pc = .ok (.iaload, 1)) (kk : W p l e Rm s m args below meth c H locs cells slots Q (F0 m (pc + 1) ls (.int (R 5 j) :: rest))) : W p l e Rm s m args below meth c H locs cells slots Q (F0 m pc ls (.int i :: .ref (ad 5) :: rest)) :=
  by subst hj; exact va_iald hx hb hK hP 2 0 rfl rfl hin hdg kk
theorem ql_5 (hx : p.tables.exec = Jvm.exec) (hb : c.code = cc) (hK : va_K (dC, dI) CL [(cI, .int)] s) (hP : va_P (dC, dI) CL (qX ad cI tl I R af fc) H) (hdg : decode cc pc = .ok (.arraylength, 1)) (kk : W p l e Rm s m args below meth c H locs cells slots Q (F0 m (pc + 1) ls (.int (nI tl) :: rest))) : W p l e Rm s m args below meth c H locs cells slots Q (F0 m pc ls (.ref (ad 5) :: rest)) :=
  va_alen hx hb hK hP 2 0 rfl rfl rfl hdg kk
theorem qa_7 (hx : p.tables.exec = Jvm.exec) (hb : c.code = cc) (hK : va_K (dC, dI) CL [(cI, .int)] s) (hP : va_P (dC, dI) CL (qX ad cI tl I R af fc) H) {i : Int32} {j : Nat} (hj : i.toNatClampNeg = j) (hin : vp_in i 10) (hdg : decode cc pc = .ok (.iaload, 1)) (kk : W p l e Rm s m args below meth c H locs cells slots Q (F0 m (pc + 1) ls (.int (R 7 j) :: rest))) : W p l e Rm s m args below meth c H locs cells slots Q (F0 m pc ls (.int i :: .ref (ad 7) :: rest)) :=
  by subst hj; exact va_iald hx hb hK hP 3 0 rfl rfl hin hdg kk
theorem ql_7 (hx : p.tables.exec = Jvm.exec) (hb : c.code = cc) (hK : va_K (dC, dI) CL [(cI, .int)] s) (hP : va_P (dC, dI) CL (qX ad cI tl I R af fc) H) (hdg : decode cc pc = .ok (.arraylength, 1)) (kk : W p l e Rm s m args below meth c H locs cells slots Q (F0 m (pc + 1) ls (.int (nI 10) :: rest))) : W p l e Rm s m args below meth c H locs cells slots Q (F0 m pc ls (.ref (ad 7) :: rest)) :=
  va_alen hx hb hK hP 3 0 rfl rfl rfl hdg kk
theorem qa_8 (hx : p.tables.exec = Jvm.exec) (hb : c.code = cc) (hK : va_K (dC, dI) CL [(cI, .int)] s) (hP : va_P (dC, dI) CL (qX ad cI tl I R af fc) H) {i : Int32} {j : Nat} (hj : i.toNatClampNeg = j) (hin : vp_in i 10) (hdg : decode cc pc = .ok (.iaload, 1)) (kk : W p l e Rm s m args below meth c H locs cells slots Q (F0 m (pc + 1) ls (.int (R 8 j) :: rest))) : W p l e Rm s m args below meth c H locs cells slots Q (F0 m pc ls (.int i :: .ref (ad 8) :: rest)) :=
  by subst hj; exact va_iald hx hb hK hP 4 0 rfl rfl hin hdg kk
theorem ql_8 (hx : p.tables.exec = Jvm.exec) (hb : c.code = cc) (hK : va_K (dC, dI) CL [(cI, .int)] s) (hP : va_P (dC, dI) CL (qX ad cI tl I R af fc) H) (hdg : decode cc pc = .ok (.arraylength, 1)) (kk : W p l e Rm s m args below meth c H locs cells slots Q (F0 m (pc + 1) ls (.int (nI 10) :: rest))) : W p l e Rm s m args below meth c H locs cells slots Q (F0 m pc ls (.ref (ad 8) :: rest)) :=
  va_alen hx hb hK hP 4 0 rfl rfl rfl hdg kk
theorem qa_9 (hx : p.tables.exec = Jvm.exec) (hb : c.code = cc) (hK : va_K (dC, dI) CL [(cI, .int)] s) (hP : va_P (dC, dI) CL (qX ad cI tl I R af fc) H) {i : Int32} {j : Nat} (hj : i.toNatClampNeg = j) (hin : vp_in i 10) (hdg : decode cc pc = .ok (.iaload, 1)) (kk : W p l e Rm s m args below meth c H locs cells slots Q (F0 m (pc + 1) ls (.int (R 9 j) :: rest))) : W p l e Rm s m args below meth c H locs cells slots Q (F0 m pc ls (.int i :: .ref (ad 9) :: rest)) :=
  by subst hj; exact va_iald hx hb hK hP 5 0 rfl rfl hin hdg kk
theorem ql_9 (hx : p.tables.exec = Jvm.exec) (hb : c.code = cc) (hK : va_K (dC, dI) CL [(cI, .int)] s) (hP : va_P (dC, dI) CL (qX ad cI tl I R af fc) H) (hdg : decode cc pc = .ok (.arraylength, 1)) (kk : W p l e Rm s m args below meth c H locs cells slots Q (F0 m (pc + 1) ls (.int (nI 10) :: rest))) : W p l e Rm s m args below meth c H locs cells slots Q (F0 m pc ls (.ref (ad 9) :: rest)) :=
  va_alen hx hb hK hP 5 0 rfl rfl rfl hdg kk
theorem qa_11 (hx : p.tables.exec = Jvm.exec) (hb : c.code = cc) (hK : va_K (dC, dI) CL [(cI, .int)] s) (hP : va_P (dC, dI) CL (qX ad cI tl I R af fc) H) {i : Int32} {j : Nat} (hj : i.toNatClampNeg = j) (hin : vp_in i 6) (hdg : decode cc pc = .ok (.iaload, 1)) (kk : W p l e Rm s m args below meth c H locs cells slots Q (F0 m (pc + 1) ls (.int (fc j) :: rest))) : W p l e Rm s m args below meth c H locs cells slots Q (F0 m pc ls (.int i :: .ref af :: rest)) :=
  by subst hj; exact va_iald hx hb hK hP 6 0 rfl rfl hin hdg kk
theorem ql_11 (hx : p.tables.exec = Jvm.exec) (hb : c.code = cc) (hK : va_K (dC, dI) CL [(cI, .int)] s) (hP : va_P (dC, dI) CL (qX ad cI tl I R af fc) H) (hdg : decode cc pc = .ok (.arraylength, 1)) (kk : W p l e Rm s m args below meth c H locs cells slots Q (F0 m (pc + 1) ls (.int (nI 6) :: rest))) : W p l e Rm s m args below meth c H locs cells slots Q (F0 m pc ls (.ref af :: rest)) :=
  va_alen hx hb hK hP 6 0 rfl rfl rfl hdg kk
end QR
