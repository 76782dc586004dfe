section UR
variable {p : Program} {l : Launch} {e : Env} {R rm : Room} {s : State} {m : MethodId} {args : Array Value} {below : List Frame} {meth : Method} {c : Code} {H : Heap} {locs : List Loc} {cells slots : Nat} {Q : State → Prop}
variable {x y : MethodName} {bytes cc : ByteArray} {maxL nL mc ms n index pc : Nat} {ret : Option FieldType} {ws Ts : List Cond} {Pc : Array Value → State → Prop} {Qc : Array Value → State → Outcome → State → Prop} {free : Addr → Prop} {own : String} {b : Addr} {As rest st0 : List Value} {g : JFrame} {ls : Array Slot}
/-- invokestatic by an inherited name -/
theorem runSx (S : CallFix p m c cc nL s args Ts own) (hM : Met l y ws rm Pc Qc mc ms free) (hrc : rm.cells = mc) (hrs : rm.slots = ms) (hR : rm.frames + 1 ≤ R.frames ∧ 8 + (maxL + 11) + rm.locals ≤ R.locals) (hws : ∀ w ∈ ws, ∀ (a' : Array Value) (U : State), s.WarmedH U.vm → w.before a' U = true) (hcw : Cond.code y bytes maxL ret ∈ ws)
    (hini : (Cond.initialized y.cls).before args s = true) (hcode : (Cond.code y bytes maxL ret).before args s = true) (hl : (Cond.methodLink own index x).before args s = true) (hsame : (Cond.sameMethod x.cls y.cls x.name x.desc).before args s = true) (hxn : x.name = y.name) (hxd : x.desc = y.desc) (hstat : (Cond.static y).before args s = true)
    (hd : y.cls ≠ "java/lang/invoke/MethodHandle" ∧ y.cls ≠ "java/lang/invoke/VarHandle" ∧ (parseMethodDescriptor y.desc).map (fun d => d.parameters.length) = some n) (hp : PreS s H Pc As)
    (hg : g.method = m) (hn : As.length = n) (hsize : g.locals.size = nL) (hstack : g.stack = As.reverse ++ rest) (hW : 2 * g.monitorRoom + (rest.map fun v => v.category).sum ≤ 8) (hdg : decode cc g.pc = .ok (.invokestatic index, 3)) (hf : cells + mc ≤ R.cells ∧ slots + ms ≤ R.slots) :
    va_Run p l e R s m args below meth c H locs cells slots mc ms g rest (Qc As.toArray) free := by
  have hK : Back l R p e below s args y 3 8 (PreOf R mc ms Pc) (PostOf Qc mc ms free) := back_of (bytes := bytes) (maxL := maxL) (ret := ret) hM hp.1 hrc hrs hR.1 hR.2 hws hcw (fun a' U hW => word_at hW (Or.inl (by first | rfl | simp [Cond.onTables, Cond.keeps, Cond.steady])) hini)
  obtain ⟨hx, hb, hml, ho, -⟩ := S
  obtain ⟨mk, hnamed⟩ := Cond.code_named hcode
  obtain ⟨methM, cM, hmethM, -, -, -, -, -, -, hsigM⟩ := Cond.code_spec hnamed hcode
  have hstatic : methM.isStatic = true := Cond.static_spec hnamed hmethM hstat
  obtain ⟨kP, hkP, -⟩ := className_of_methodNamed hnamed
  have hinitP : kP.init = .initialized := Cond.initialized_spec (findClass_of_methodNamed hnamed) hkP hini
  have hnamed' : s.methodNamed? ⟨y.cls, x.name, x.desc⟩ = some mk := by rw [hxn, hxd]; exact hnamed
  have hlen : As.length = methM.sig.parameters.length := by
    have h2 := hd.2.2
    rw [hsigM] at h2
    rw [hn]
    exact (Option.some.inj h2).symm
  intro T hT X
  obtain ⟨vm₁, X₁, hstep₁⟩ := st_up X hx ho hl hsame hnamed' hmethM hstatic hkP hinitP ⟨hd.1, hd.2.1⟩ (g := g) hg (argsL := As) (rest := rest) hlen hstack (by rw [hb]; exact hdg)
  obtain ⟨v, ⟨U', l2, c2, s2⟩, X', ⟨g', mk', t, L, e1, e2, hq, h1, hL, h2, h3⟩, hsteps⟩ := hK m meth c ⟨T.setVm vm₁, locs, cells, slots⟩ { g with stack := rest } (.invokestatic index) mk As.toArray X₁ hg (hsize.trans hml.symm) (by rw [hb]; exact hdg) hW (X₁.named hnamed) ⟨hf.1, hf.2, hp.2 (T.setVm vm₁) hT X₁.warmed⟩
  dsimp only [Pt.U, Pt.locs, Pt.cells, Pt.slots] at X' e1 e2 h1 h2 h3 hsteps
  subst h1; subst h2; subst h3
  exact ⟨v, (T.setVm vm₁).calling g' mk' As.toArray, t, U', L, hT, X', hL, e1, e2, hq, fun target h => hstep₁ _ fun acts => by rw [doInvoke_state]; exact hsteps.trans h⟩
/-- super.m(..) where the superclass inherits m -/
theorem runSUx {C : String} {cC : ClassId} (hat : ClassAt s C cC) (S : CallFix p m c cc nL s args Ts own) (hM : Met l y ws rm Pc Qc mc ms free) (hrc : rm.cells = mc) (hrs : rm.slots = ms) (hR : rm.frames + 1 ≤ R.frames ∧ 8 + (maxL + 11) + rm.locals ≤ R.locals) (hws : ∀ w ∈ ws, ∀ (a' : Array Value) (U : State), s.WarmedH U.vm → w.before a' U = true) (hcw : Cond.code y bytes maxL ret ∈ ws)
    (hini : (Cond.initialized y.cls).before args s = true) (hcode : (Cond.code y bytes maxL ret).before args s = true) (hl : (Cond.methodLink own index x).before args s = true) (hsame : (Cond.sameMethod x.cls y.cls x.name x.desc).before args s = true) (hxn : x.name = y.name) (hxd : x.desc = y.desc) (hinst : (Cond.instanceMethod y).before args s = true) (hsup : (Cond.superclass own x.cls).before args s = true) (hasg : ∀ cx cy : ClassId, s.vm.findClass x.cls = some cx → s.vm.findClass y.cls = some cy → s.vm.isSubclass cx cy = true)
    (hd : y.name ≠ "<init>" ∧ (parseMethodDescriptor y.desc).map (fun d => d.parameters.length) = some n) (hp : PreV s H C b Pc As)
    (hg : g.method = m) (hn : As.length = n) (hsize : g.locals.size = nL) (hstack : g.stack = As.reverse ++ .ref b :: rest) (hW : 2 * g.monitorRoom + (rest.map fun v => v.category).sum ≤ 8) (hdg : decode cc g.pc = .ok (.invokespecial index, 3)) (hf : cells + mc ≤ R.cells ∧ slots + ms ≤ R.slots) :
    va_Run p l e R s m args below meth c H locs cells slots mc ms g rest (Qc (Value.ref b :: As).toArray) free := by
  have hK : Back l R p e below s args y 3 8 (PreOf R mc ms Pc) (PostOf Qc mc ms free) := back_of (bytes := bytes) (maxL := maxL) (ret := ret) hM hp.1 hrc hrs hR.1 hR.2 hws hcw (fun a' U hW => word_at hW (Or.inl (by first | rfl | simp [Cond.onTables, Cond.keeps, Cond.steady])) hini)
  obtain ⟨hx, hb, hml, ho, -⟩ := S
  obtain ⟨-, ⟨cellB, hcB, hoB, hclB⟩, hPc⟩ := hp
  obtain ⟨hfc, kB, hkB, -⟩ := hat
  cases hfc.symm.trans hclB
  obtain ⟨mk, methM, hnamed, hmethM, hstM, habM⟩ := Cond.instanceMethod_spec hinst
  obtain ⟨methM', cM, hmethM', -, -, -, -, -, -, hsigM⟩ := Cond.code_spec hnamed hcode
  cases hmethM.symm.trans hmethM'
  obtain ⟨ps, dk, kp, hps, hdk, hkp, hsuper, -, -, hnid⟩ := Cond.superclass_spec ho hsup
  have hnamed' : s.methodNamed? ⟨y.cls, x.name, x.desc⟩ = some mk := by rw [hxn, hxd]; exact hnamed
  have hsub : s.vm.isSubclass ps mk.cls = true := hasg _ _ hps (findClass_of_methodNamed hnamed)
  have hlen : As.length = methM.sig.parameters.length := by
    have h2 := hd.2
    rw [hsigM] at h2
    rw [hn]
    exact (Option.some.inj h2).symm
  intro T hT X
  obtain ⟨vm₁, X₁, hstep₁⟩ := X.invokespecialUp hx ho hl hsame hnamed' hmethM hstM habM (by rw [hxn]; exact hd.1) hdk hnid hps hsuper hsub (a := b) (cell := cellB) (by rw [hT]; exact hcB)
    (fun z h => by rw [h] at hoB; cases hoB) hkB (g := g) hg (argsL := As) (rest := rest) hlen hstack (by rw [hb]; exact hdg)
  obtain ⟨v, ⟨U', l2, c2, s2⟩, X', ⟨g', mk', t, L, e1, e2, hq, h1, hL, h2, h3⟩, hsteps⟩ := hK m meth c ⟨T.setVm vm₁, locs, cells, slots⟩ { g with stack := rest } (.invokespecial index) mk (Value.ref b :: As).toArray X₁ hg (hsize.trans hml.symm) (by rw [hb]; exact hdg) hW (X₁.named hnamed) ⟨hf.1, hf.2, hPc (T.setVm vm₁) hT X₁.warmed⟩
  dsimp only [Pt.U, Pt.locs, Pt.cells, Pt.slots] at X' e1 e2 h1 h2 h3 hsteps
  subst h1; subst h2; subst h3
  exact ⟨v, (T.setVm vm₁).calling g' mk' (Value.ref b :: As).toArray, t, U', L, hT, X', hL, e1, e2, hq, fun target h => hstep₁ _ (by rw [doInvoke_state]; exact hsteps.trans h)⟩
end UR
/-- one step up: a class is a subclass of its superclass -/
theorem sub_up {s : State} {args : Array Value} {C D : String} (h : (Cond.superclass C D).before args s = true) : ∀ cx cy : ClassId, s.vm.findClass C = some cx → s.vm.findClass D = some cy → s.vm.isSubclass cx cy = true := by
  intro cx cy hc hd
  obtain ⟨ps, dk, kp, hps, hdk, hkp, hsuper, -, -, hnid⟩ := Cond.superclass_spec hc h
  cases hps.symm.trans hd
  have hlt : cx < s.vm.classes.size := (Array.getElem?_eq_some_iff.mp hdk).1
  by_cases e : cx = cy
  · subst e; simp [Vm.isSubclass, Vm.isSubclassAux]
  · have hsz : ∃ k, s.vm.classes.size = k + 1 := ⟨_, (Nat.succ_pred_eq_of_pos (Nat.lt_of_le_of_lt (Nat.zero_le _) hlt)).symm⟩
    obtain ⟨k, hk⟩ := hsz
    simp [Vm.isSubclass, Vm.isSubclassAux, hk, hdk, hsuper, e]
section CK
variable {p : Program} {l : Launch} {e : Env} {Rm rm : Room} {s : State} {m : MethodId} {args : Array Value} {below : List Frame} {meth : Method} {c : Code} {H : Heap} {locs : List Loc} {cells slots : Nat} {Q : State → Prop} {cc b : ByteArray} {n nL pc ix na : Nat} {ls : Array Slot} {rest st0 : List Value} {a : Array Value} {dC : Nat → ClassId} {dI : Nat → Nat → Nat} {ad : Nat → Nat} {cI cZ cW cJ : ClassId} {F G F' G' : Nat → Nat → Int32} {P P' : Nat → Nat → Option Nat} {N N' : Nat → Nat} {A : Nat → Prop} {adK adV : Nat → Nat} {E : PE} {own : String}
theorem cPre_bl (as : Array Value) (U : State) (g : JFrame) (mk : MethodId) {sz : Nat} (q : cPre dC dI ad cI cZ cW cJ adK adV E F G P N sz U) : cPre dC dI ad cI cZ cW cJ adK adV E F G P N sz (U.calling g mk as) :=
  ⟨q.1, q.2.1, va_K.moved (u := U) (U := U.calling g mk as) (Vm.Alike.refl U.vm) q.2.2.1, q.2.2.2.1, q.2.2.2.2.1.moved (u := U) (U := U.calling g mk as) (Vm.Alike.refl U.vm), q.2.2.2.2.2.1.same rfl, q.2.2.2.2.2.2.1, q.2.2.2.2.2.2.2.moved (u := U) (U := U.calling g mk as) (Vm.Alike.refl U.vm)⟩
theorem cPre_to (C : cC p s m args c cc nL own dC dI cI cZ cW cJ A adK adV E) (h : cH A s.heap dC dI ad cI cZ cW cJ F G P N H locs) (hA : ∀ q, s.heap.size ≤ q → A q) (U : State) (hU : U.heap = H) (hW : s.WarmedH U.vm) : cPre dC dI ad cI cZ cW cJ adK adV E F G P N H.size U :=
  ⟨by rw [hU], by rw [hU]; exact h.1, va_K.moved hW.alike C.2.2.2.2.2.1, h.2.1.weaken (fun _ _ _ _ => trivial), by rw [hU]; exact ((C.2.2.2.2.2.2.1.kept h.2.2.2.1).moved hW.alike).narrow (cH_free h hA), C.2.2.2.2.2.2.2.1.warm hW, by rw [hU]; exact (C.2.2.2.2.2.2.2.2.1.kept h.2.2.2.1).narrow (cH_free h hA), C.2.2.2.2.2.2.2.2.2.moved hW.alike⟩
theorem kxr_v (h : cH A s.heap dC dI ad cI cZ cW cJ F G P N H locs) (hA : ∀ q, s.heap.size ≤ q → A q)
    (hr : va_Run p l e Rm s m args below meth c H locs cells slots 0 0 (F0 m pc ls st0) rest (va_Qv (fun (u : CU) => u = (F', G', P', N')) (cPost dC dI ad cI cZ cW cJ (va_A (cX ad cI cZ cW cJ F G P N) H.size)) (va_A (cX ad cI cZ cW cJ F G P N) H.size) a) (va_A (cX ad cI cZ cW cJ F G P N) H.size))
    (kk : ∀ (H1 : Heap) (locs1 : List Loc), cH A s.heap dC dI ad cI cZ cW cJ F' G' P' N' H1 locs1 → W p l e Rm s m args below meth c H1 locs1 cells slots Q (F0 m (pc + 3) ls rest)) : W p l e Rm s m args below meth c H locs cells slots Q (F0 m pc ls st0) := by
  refine va_callv hr h.2.2 (fun q _ hq => cH_free h hA q hq) (cH_free h hA) (fun u1 t H1 locs1 ht hvm hw hB hz1 hk1 hS => ?_)
  cases hw
  exact kk H1 locs1 ⟨by rw [← ht]; exact hB.1, hB.2.2.weaken (fun _ q _ hq => cH_free h hA _ hq), hS⟩
theorem kxr_i {r : Int32} (h : cH A s.heap dC dI ad cI cZ cW cJ F G P N H locs) (hA : ∀ q, s.heap.size ≤ q → A q)
    (hr : va_Run p l e Rm s m args below meth c H locs cells slots 0 0 (F0 m pc ls st0) rest (va_Qi (fun r0 (u : CU) => (r0, u) = (r, F', G', P', N')) (cPost dC dI ad cI cZ cW cJ (va_A (cX ad cI cZ cW cJ F G P N) H.size)) (va_A (cX ad cI cZ cW cJ F G P N) H.size) a) (va_A (cX ad cI cZ cW cJ F G P N) H.size))
    (kk : ∀ (H1 : Heap) (locs1 : List Loc), cH A s.heap dC dI ad cI cZ cW cJ F' G' P' N' H1 locs1 → W p l e Rm s m args below meth c H1 locs1 cells slots Q (F0 m (pc + 3) ls (.int r :: rest))) : W p l e Rm s m args below meth c H locs cells slots Q (F0 m pc ls st0) := by
  refine va_calli hr h.2.2 (fun q _ hq => cH_free h hA q hq) (cH_free h hA) (fun r1 u1 t H1 locs1 ht hvm hw hB hz1 hk1 hS => ?_)
  cases hw
  exact kk H1 locs1 ⟨by rw [← ht]; exact hB.1, hB.2.2.weaken (fun _ q _ hq => cH_free h hA _ hq), hS⟩
end CK
