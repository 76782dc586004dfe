/-! ===== methods that read texts alone (the JDK's) ===== -/
abbrev tB (adK adV : Nat → Nat) : State → Prop := fun U => tS adK adV (fun _ => False) U U.heap
def MTi (l : Launch) (y : MethodName) (b : ByteArray) (n : Nat) (ty : FieldType) (rm : Room) (adK adV : Nat → Nat) (As : List Value) (f : Option Int32) : Prop :=
  ∀ (z : Int32), f = some z → Met l y (Cond.code y b n (some ty) :: WT) rm (va_Pc As (tB adK adV)) (fun _ st oc t => oc = .returned (some (.int z)) ∧ t.heap = st.heap) 0 0 (fun _ => False)
def MTv (l : Launch) (y : MethodName) (b : ByteArray) (n : Nat) (rm : Room) (adK adV : Nat → Nat) (As : List Value) (f : Option Unit) : Prop :=
  ∀ (z : Unit), f = some z → Met l y (Cond.code y b n none :: WT) rm (va_Pc As (tB adK adV)) (fun _ st oc t => oc = .returned none ∧ t.heap = st.heap) 0 0 (fun _ => False)
abbrev isC (x : Int32) : Prop := 0 ≤ x.toInt ∧ x.toInt < 65536
theorem isC_nar {x : Int32} (h : isC x) : narrow .char (.int x) = .int x := by
  have h1 : ∃ j : Nat, j < 65536 ∧ x = nI j := by
    have h0 : ¬ x < 0 := by rw [Int32.lt_iff_toInt_lt, Int32.toInt_zero]; omega
    obtain ⟨j, hj, rfl⟩ := nI_of h0
    refine ⟨j, ?_, rfl⟩
    have := h.2
    rw [nI_toInt hj] at this
    omega
  obtain ⟨j, hj, rfl⟩ := h1
  exact (pk_charN hj).1
theorem isZ_narB {x : Int32} (h : isZ x) : narrow .byte (.int x) = .int x := by rcases h with rfl | rfl <;> decide +kernel
theorem zq_val {C n d : String} {A : Nat → Prop} {U : State} {H : Heap} (h : va_Zq C n d A U H) : ∃ q : Option Nat, va_Z C n d (va_rf q) A U H := by
  rcases h with h | ⟨t, h⟩
  · exact ⟨none, h⟩
  · exact ⟨some t, h⟩
section MT
variable {p : Program} {l : Launch} {e : Env} {Rm rm : Room} {s : State} {m : MethodId} {args : Array Value} {below : List Frame} {meth : Method} {c : Code} {H : Heap} {locs : List Loc} {cells slots : Nat} {Q : State → Prop} {cc b : ByteArray} {n nL pc ix na : Nat} {ls : Array Slot} {rest st0 As : List Value} {A : Nat → Prop} {H0 : Heap} {y : MethodName} {ty : FieldType} {adK adV : Nat → Nat}
theorem kt_s {z : Int32} {own : String} (hx : p.tables.exec = Jvm.exec) (hb : c.code = cc) (hml : c.maxLocals = nL) (hown : s.vm.findClass own = some m.cls) (hT : ∀ w ∈ WT, w.before args s = true) (hS0 : tS adK adV (fun _ => False) s H)
    (hM : Met l y (Cond.code y b n (some ty) :: WT) rm (va_Pc As (tB adK adV)) (fun _ st oc t => oc = .returned (some (.int z)) ∧ t.heap = st.heap) 0 0 (fun _ => False)) (cb : CallB Rm s args own ix y b n (some ty) (Cond.code y b n (some ty) :: WT) rm 0 0 na) (sm : Cond.static y ∈ WT)
    (hn : As.length = na) (hsz : ls.size = nL) (hst : st0 = As.reverse ++ rest) (hW : (rest.map fun v => v.category).sum ≤ 8) (hdg : decode cc pc = .ok (.invokestatic ix, 3)) (hf : cells ≤ Rm.cells ∧ slots ≤ Rm.slots)
    (kk : W p l e Rm s m args below meth c H locs cells slots Q (F0 m (pc + 3) ls (.int z :: rest))) : W p l e Rm s m args below meth c H locs cells slots Q (F0 m pc ls st0) := by
  have hr := va_runS (l := l) (e := e) (R := Rm) (below := below) (meth := meth) (H := H) (locs := locs) (cells := cells) (slots := slots) (g := F0 m pc ls st0) (rest := rest) ⟨hx, hb, hml, hown, hT⟩ hM ⟨cb, hT _ sm⟩ ⟨fun a U g mk q => ⟨q.1, q.2.moved (u := U) (U := U.calling g mk a) (Vm.Alike.refl U.vm)⟩, fun U hU hW => ⟨rfl, by show tS adK adV (fun _ => False) U U.heap; rw [hU]; exact hS0.moved hW.alike⟩⟩ rfl hn hsz hst (lv_room hW) hdg hf
  intro T hT' X
  obtain ⟨v, st₀, t, T', L, h0, X', hL, e1, e2, ⟨hv, hh⟩, st⟩ := hr T hT' X
  cases hv
  have hL0 : L = [] := List.eq_nil_iff_forall_not_mem.mpr (fun q hq => hL q hq)
  subst hL0
  rw [List.append_nil] at X'
  obtain ⟨t2, a1, b1⟩ := kk T' (by rw [e1, hh, h0]) X'
  exact ⟨t2, st t2 a1, b1⟩
theorem kt_sv {z : Unit} {own : String} (hx : p.tables.exec = Jvm.exec) (hb : c.code = cc) (hml : c.maxLocals = nL) (hown : s.vm.findClass own = some m.cls) (hT : ∀ w ∈ WT, w.before args s = true) (hS0 : tS adK adV (fun _ => False) s H)
    (hM : Met l y (Cond.code y b n none :: WT) rm (va_Pc As (tB adK adV)) (fun _ st oc t => oc = .returned none ∧ t.heap = st.heap) 0 0 (fun _ => False)) (cb : CallB Rm s args own ix y b n none (Cond.code y b n none :: WT) rm 0 0 na) (sm : Cond.static y ∈ WT)
    (hn : As.length = na) (hsz : ls.size = nL) (hst : st0 = As.reverse ++ rest) (hW : (rest.map fun v => v.category).sum ≤ 8) (hdg : decode cc pc = .ok (.invokestatic ix, 3)) (hf : cells ≤ Rm.cells ∧ slots ≤ Rm.slots)
    (kk : W p l e Rm s m args below meth c H locs cells slots Q (F0 m (pc + 3) ls rest)) : W p l e Rm s m args below meth c H locs cells slots Q (F0 m pc ls st0) := by
  have hr := va_runS (l := l) (e := e) (R := Rm) (below := below) (meth := meth) (H := H) (locs := locs) (cells := cells) (slots := slots) (g := F0 m pc ls st0) (rest := rest) ⟨hx, hb, hml, hown, hT⟩ hM ⟨cb, hT _ sm⟩ ⟨fun a U g mk q => ⟨q.1, q.2.moved (u := U) (U := U.calling g mk a) (Vm.Alike.refl U.vm)⟩, fun U hU hW => ⟨rfl, by show tS adK adV (fun _ => False) U U.heap; rw [hU]; exact hS0.moved hW.alike⟩⟩ rfl hn hsz hst (lv_room hW) hdg hf
  intro T hT' X
  obtain ⟨v, st₀, t, T', L, h0, X', hL, e1, e2, ⟨hv, hh⟩, st⟩ := hr T hT' X
  cases hv
  have hL0 : L = [] := List.eq_nil_iff_forall_not_mem.mpr (fun q hq => hL q hq)
  subst hL0
  rw [List.append_nil] at X'
  obtain ⟨t2, a1, b1⟩ := kk T' (by rw [e1, hh, h0]) X'
  exact ⟨t2, st t2 a1, b1⟩
theorem kt_v {z : Int32} {own : String} {i : Nat} (hx : p.tables.exec = Jvm.exec) (hb : c.code = cc) (hml : c.maxLocals = nL) (hown : s.vm.findClass own = some m.cls) (hT : ∀ w ∈ WT, w.before args s = true) (hS0 : tS adK adV (fun _ => False) s H) (hi : i < 12)
    (hM : Met l y (Cond.code y b n (some ty) :: WT) rm (va_Pc (.ref (adK i) :: As) (tB adK adV)) (fun _ st oc t => oc = .returned (some (.int z)) ∧ t.heap = st.heap) 0 0 (fun _ => False)) (cb : CallB Rm s args own ix y b n (some ty) (Cond.code y b n (some ty) :: WT) rm 0 0 na) (im : Cond.instanceMethod y ∈ WT) (se : Cond.selects "java/lang/String" y y ∈ WT)
    (hn : As.length = na) (hsz : ls.size = nL) (hst : st0 = As.reverse ++ .ref (adK i) :: rest) (hW : (rest.map fun v => v.category).sum ≤ 8) (hdg : decode cc pc = .ok (.invokevirtual ix, 3)) (hf : cells ≤ Rm.cells ∧ slots ≤ Rm.slots)
    (kk : W p l e Rm s m args below meth c H locs cells slots Q (F0 m (pc + 3) ls (.int z :: rest))) : W p l e Rm s m args below meth c H locs cells slots Q (F0 m pc ls st0) := by
  obtain ⟨cell, hc1, hc2, hc3, -⟩ := (hS0.1.1 i hi).1
  have hr := va_runV (l := l) (e := e) (R := Rm) (below := below) (meth := meth) (H := H) (locs := locs) (cells := cells) (slots := slots) (g := F0 m pc ls st0) (rest := rest) (C := "java/lang/String") (b := adK i) (As := As) ⟨hx, hb, hml, hown, hT⟩ hM ⟨cb, hT _ im, hT _ se⟩ ⟨fun a U g mk q => ⟨q.1, q.2.moved (u := U) (U := U.calling g mk a) (Vm.Alike.refl U.vm)⟩, ⟨cell, hc1, hc2, hc3⟩, fun U hU hW => ⟨rfl, by show tS adK adV (fun _ => False) U U.heap; rw [hU]; exact hS0.moved hW.alike⟩⟩ rfl hn hsz hst (lv_room hW) hdg hf
  intro T hT' X
  obtain ⟨v, st₀, t, T', L, h0, X', hL, e1, e2, ⟨hv, hh⟩, st⟩ := hr T hT' X
  cases hv
  have hL0 : L = [] := List.eq_nil_iff_forall_not_mem.mpr (fun q hq => hL q hq)
  subst hL0
  rw [List.append_nil] at X'
  obtain ⟨t2, a1, b1⟩ := kk T' (by rw [e1, hh, h0]) X'
  exact ⟨t2, st t2 a1, b1⟩
theorem en_ti {f : Option Int32} (hy : plainName y.cls = true) (hlen : (lg_sl As).length ≤ n) (body : ∀ (z : Int32), f = some z → ∀ (p : Program) (e : Env) (s : State) (m : MethodId) (args : Array Value) (below : List Frame) (meth : Method) (c : Code) (ls : Array Slot), p.tables.exec = Jvm.exec → c.code = b → c.maxLocals = n → s.vm.findClass y.cls = some m.cls → (∀ w ∈ WT, w.before args s = true) → meth.sig.returnType = some ty → meth.locks = false → tS adK adV (fun _ => False) s s.heap → lv_has ls n (lv_args 0 As) → W p l e rm s m args below meth c s.heap [] 0 0 (MQ below (fun _ st oc t => oc = .returned (some (.int z)) ∧ t.heap = st.heap) args s 0 0 (fun _ => False)) (F0 m 0 ls [])) : MTi l y b n ty rm adK adV As f := by
  intro z hz
  refine Met.ofW (cc := b) (maxL := n) (ret := some ty) hy rfl ?_
  intro p e s m args below meth c s₁ B hml hv
  obtain ⟨rfl, hTS⟩ := hv
  have hts := atoms_spec (ws := Cond.code y b n (some ty) :: WT) B.pre
  rw [lg_entry_eq]
  exact body z hz p e s m _ below meth c _ B.exec B.bytes hml (findClass_of_methodNamed B.named) (fun w hw => hts w (List.mem_cons_of_mem _ hw)) B.returns B.notSynchronized hTS (lv_entry As hlen)
theorem en_tv {f : Option Unit} (hy : plainName y.cls = true) (hlen : (lg_sl As).length ≤ n) (body : ∀ (z : Unit), f = some z → ∀ (p : Program) (e : Env) (s : State) (m : MethodId) (args : Array Value) (below : List Frame) (meth : Method) (c : Code) (ls : Array Slot), p.tables.exec = Jvm.exec → c.code = b → c.maxLocals = n → s.vm.findClass y.cls = some m.cls → (∀ w ∈ WT, w.before args s = true) → meth.sig.returnType = none → meth.locks = false → tS adK adV (fun _ => False) s s.heap → lv_has ls n (lv_args 0 As) → W p l e rm s m args below meth c s.heap [] 0 0 (MQ below (fun _ st oc t => oc = .returned none ∧ t.heap = st.heap) args s 0 0 (fun _ => False)) (F0 m 0 ls [])) : MTv l y b n rm adK adV As f := by
  intro z hz
  refine Met.ofW (cc := b) (maxL := n) (ret := none) hy rfl ?_
  intro p e s m args below meth c s₁ B hml hv
  obtain ⟨rfl, hTS⟩ := hv
  have hts := atoms_spec (ws := Cond.code y b n none :: WT) B.pre
  rw [lg_entry_eq]
  exact body z hz p e s m _ below meth c _ B.exec B.bytes hml (findClass_of_methodNamed B.named) (fun w hw => hts w (List.mem_cons_of_mem _ hw)) B.returns B.notSynchronized hTS (lv_entry As hlen)
theorem rt_sv (hx : p.tables.exec = Jvm.exec) (hb : c.code = cc) (hr : meth.sig.returnType = none) (hlk : meth.locks = false) (hdg : decode cc pc = .ok (.return_, 1)) : W p l e Rm s m args below meth c s.heap [] 0 0 (MQ below (fun _ st oc t => oc = .returned none ∧ t.heap = st.heap) args s 0 0 (fun _ => False)) (F0 m pc ls []) :=
  W.vret hx hb hr (fun t ht _ => ⟨rfl, ht⟩) (fun q hq => by cases hq) hdg hlk
end MT
theorem mT {p : Program} {s : State} {m : MethodId} {args : Array Value} {c : Code} {H : Heap} {locs : List Loc} {cc : ByteArray} {nL : Nat} {dC : Nat → ClassId} {dI : Nat → Nat → Nat} {ad : Nat → Nat} {cI cZ : ClassId} {I : Nat → Int32} {R : Nat → Nat → Int32} {A : Nat → Prop} {adK adV : Nat → Nat} (C : mC p s m args c cc nL dC dI cI cZ A adK adV) (h : mH A s.heap dC dI ad cI cZ I R H locs) : tS adK adV (fun _ => False) s H := (C.2.2.2.2.2.2.1.kept h.2.2.2.1).narrow (fun _ q => q.elim)
