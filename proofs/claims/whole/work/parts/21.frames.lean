/-! ===== methods that only read: B is what they need of the state ===== -/
def ROi (l : Launch) (y : MethodName) (b : ByteArray) (n : Nat) (ty : FieldType) (rm : Room) (B : State → Prop) (As : List Value) (f : Option Int32) : Prop :=
  ∀ (z : Int32), f = some z → Met l y (Cond.code y b n (some ty) :: WT) rm (va_Pc As B) (fun _ st oc t => oc = .returned (some (.int z)) ∧ t.heap = st.heap) 0 0 (fun _ => False)
def ROq (l : Launch) (y : MethodName) (b : ByteArray) (n : Nat) (ty : FieldType) (rm : Room) (B : State → Prop) (As : List Value) (f : Option (Option Nat)) : Prop :=
  ∀ (z : Option Nat), f = some z → Met l y (Cond.code y b n (some ty) :: WT) rm (va_Pc As B) (fun _ st oc t => oc = .returned (some (va_rf z)) ∧ t.heap = st.heap) 0 0 (fun _ => False)
section RO
variable {p : Program} {l : Launch} {e : Env} {Rm rm : Room} {s : State} {m : MethodId} {args : Array Value} {below : List Frame} {meth : Method} {c : Code} {H : Heap} {locs : List Loc} {cells slots : Nat} {Q : State → Prop} {cc b : ByteArray} {n nL pc ix na : Nat} {ls : Array Slot} {rest st0 As : List Value} {y : MethodName} {ty : FieldType} {B : State → Prop}
theorem en_roi {f : Option (Int32)} (hy : plainName y.cls = true) (hlen : (lg_sl As).length ≤ n) (body : ∀ (z : Int32), f = some z → ∀ (p : Program) (e : Env) (s : State) (m : MethodId) (args : Array Value) (below : List Frame) (meth : Method) (c : Code) (ls : Array Slot), p.tables.exec = Jvm.exec → c.code = b → c.maxLocals = n → s.vm.findClass y.cls = some m.cls → (∀ w ∈ WT, w.before args s = true) → meth.sig.returnType = some ty → meth.locks = false → B s → lv_has ls n (lv_args 0 As) → W p l e rm s m args below meth c s.heap [] 0 0 (MQ below (fun _ st oc t => oc = .returned (some (.int z)) ∧ t.heap = st.heap) args s 0 0 (fun _ => False)) (F0 m 0 ls [])) : ROi l y b n ty rm B As f := by
  intro z hz
  refine Met.ofW (cc := b) (maxL := n) (ret := some ty) hy rfl ?_
  intro p e s m args below meth c s₁ X hml hv
  obtain ⟨rfl, hB⟩ := hv
  have hts := atoms_spec (ws := Cond.code y b n (some ty) :: WT) X.pre
  rw [lg_entry_eq]
  exact body z hz p e s m _ below meth c _ X.exec X.bytes hml (findClass_of_methodNamed X.named) (fun w hw => hts w (List.mem_cons_of_mem _ hw)) X.returns X.notSynchronized hB (lv_entry As hlen)
theorem kr_i {z : Int32} {own C : String} {b0 : Nat} (hx : p.tables.exec = Jvm.exec) (hb : c.code = cc) (hml : c.maxLocals = nL) (hown : s.vm.findClass own = some m.cls) (hT : ∀ w ∈ WT, w.before args s = true) (hbl : ∀ (a : Array Value) (U : State) (g : JFrame) (mk : MethodId), B U → B (U.calling g mk a)) (hB : ∀ U : State, U.heap = H → s.WarmedH U.vm → B U) (hrc : ∃ cell : Cell, H[b0]? = some cell ∧ cell.vm.isStatics = false ∧ s.vm.findClass C = some cell.cls)
    (hM : Met l y (Cond.code y b n (some ty) :: WT) rm (va_Pc (.ref b0 :: As) B) (fun _ st oc t => oc = .returned (some (.int z)) ∧ t.heap = st.heap) 0 0 (fun _ => False)) (cb : CallB Rm s args own ix y b n (some ty) (Cond.code y b n (some ty) :: WT) rm 0 0 na) (im : Cond.instanceMethod y ∈ WT) (se : Cond.selects C y y ∈ WT)
    (hn : As.length = na) (hsz : ls.size = nL) (hst : st0 = As.reverse ++ .ref b0 :: rest) (hW : (rest.map fun v => v.category).sum ≤ 8) (hdg : decode cc pc = .ok (.invokevirtual ix, 3)) (hf : cells ≤ Rm.cells ∧ slots ≤ Rm.slots)
    (kk : W p l e Rm s m args below meth c H locs cells slots Q (F0 m (pc + 3) ls (.int z :: rest))) : W p l e Rm s m args below meth c H locs cells slots Q (F0 m pc ls st0) := by
  have hr := va_runV (l := l) (e := e) (R := Rm) (below := below) (meth := meth) (H := H) (locs := locs) (cells := cells) (slots := slots) (g := F0 m pc ls st0) (rest := rest) (C := C) (b := b0) (As := As) ⟨hx, hb, hml, hown, hT⟩ hM ⟨cb, hT _ im, hT _ se⟩ ⟨fun a U g mk q => ⟨q.1, hbl a U g mk q.2⟩, hrc, fun U hU hW => ⟨rfl, hB U hU hW⟩⟩ rfl hn hsz hst (lv_room hW) hdg hf
  intro T hT' X
  obtain ⟨v, st₀, t, T', L, h0, X', hL, e1, e2, ⟨hv, hh⟩, st⟩ := hr T hT' X
  cases hv
  have hL0 : L = [] := List.eq_nil_iff_forall_not_mem.mpr (fun q hq => hL q hq)
  subst hL0
  rw [List.append_nil] at X'
  obtain ⟨t2, a1, b1⟩ := kk T' (by rw [e1, hh, h0]) X'
  exact ⟨t2, st t2 a1, b1⟩
theorem krs_i {z : Int32} {own : String} (hx : p.tables.exec = Jvm.exec) (hb : c.code = cc) (hml : c.maxLocals = nL) (hown : s.vm.findClass own = some m.cls) (hT : ∀ w ∈ WT, w.before args s = true) (hbl : ∀ (a : Array Value) (U : State) (g : JFrame) (mk : MethodId), B U → B (U.calling g mk a)) (hB : ∀ U : State, U.heap = H → s.WarmedH U.vm → B U)
    (hM : Met l y (Cond.code y b n (some ty) :: WT) rm (va_Pc As B) (fun _ st oc t => oc = .returned (some (.int z)) ∧ t.heap = st.heap) 0 0 (fun _ => False)) (cb : CallB Rm s args own ix y b n (some ty) (Cond.code y b n (some ty) :: WT) rm 0 0 na) (sm : Cond.static y ∈ WT)
    (hn : As.length = na) (hsz : ls.size = nL) (hst : st0 = As.reverse ++ rest) (hW : (rest.map fun v => v.category).sum ≤ 8) (hdg : decode cc pc = .ok (.invokestatic ix, 3)) (hf : cells ≤ Rm.cells ∧ slots ≤ Rm.slots)
    (kk : W p l e Rm s m args below meth c H locs cells slots Q (F0 m (pc + 3) ls (.int z :: rest))) : W p l e Rm s m args below meth c H locs cells slots Q (F0 m pc ls st0) := by
  have hr := va_runS (l := l) (e := e) (R := Rm) (below := below) (meth := meth) (H := H) (locs := locs) (cells := cells) (slots := slots) (g := F0 m pc ls st0) (rest := rest) ⟨hx, hb, hml, hown, hT⟩ hM ⟨cb, hT _ sm⟩ ⟨fun a U g mk q => ⟨q.1, hbl a U g mk q.2⟩, fun U hU hW => ⟨rfl, hB U hU hW⟩⟩ rfl hn hsz hst (lv_room hW) hdg hf
  intro T hT' X
  obtain ⟨v, st₀, t, T', L, h0, X', hL, e1, e2, ⟨hv, hh⟩, st⟩ := hr T hT' X
  cases hv
  have hL0 : L = [] := List.eq_nil_iff_forall_not_mem.mpr (fun q hq => hL q hq)
  subst hL0
  rw [List.append_nil] at X'
  obtain ⟨t2, a1, b1⟩ := kk T' (by rw [e1, hh, h0]) X'
  exact ⟨t2, st t2 a1, b1⟩
theorem en_roq {f : Option (Option Nat)} (hy : plainName y.cls = true) (hlen : (lg_sl As).length ≤ n) (body : ∀ (z : Option Nat), f = some z → ∀ (p : Program) (e : Env) (s : State) (m : MethodId) (args : Array Value) (below : List Frame) (meth : Method) (c : Code) (ls : Array Slot), p.tables.exec = Jvm.exec → c.code = b → c.maxLocals = n → s.vm.findClass y.cls = some m.cls → (∀ w ∈ WT, w.before args s = true) → meth.sig.returnType = some ty → meth.locks = false → B s → lv_has ls n (lv_args 0 As) → W p l e rm s m args below meth c s.heap [] 0 0 (MQ below (fun _ st oc t => oc = .returned (some (va_rf z)) ∧ t.heap = st.heap) args s 0 0 (fun _ => False)) (F0 m 0 ls [])) : ROq l y b n ty rm B As f := by
  intro z hz
  refine Met.ofW (cc := b) (maxL := n) (ret := some ty) hy rfl ?_
  intro p e s m args below meth c s₁ X hml hv
  obtain ⟨rfl, hB⟩ := hv
  have hts := atoms_spec (ws := Cond.code y b n (some ty) :: WT) X.pre
  rw [lg_entry_eq]
  exact body z hz p e s m _ below meth c _ X.exec X.bytes hml (findClass_of_methodNamed X.named) (fun w hw => hts w (List.mem_cons_of_mem _ hw)) X.returns X.notSynchronized hB (lv_entry As hlen)
theorem kr_q {z : Option Nat} {own C : String} {b0 : Nat} (hx : p.tables.exec = Jvm.exec) (hb : c.code = cc) (hml : c.maxLocals = nL) (hown : s.vm.findClass own = some m.cls) (hT : ∀ w ∈ WT, w.before args s = true) (hbl : ∀ (a : Array Value) (U : State) (g : JFrame) (mk : MethodId), B U → B (U.calling g mk a)) (hB : ∀ U : State, U.heap = H → s.WarmedH U.vm → B U) (hrc : ∃ cell : Cell, H[b0]? = some cell ∧ cell.vm.isStatics = false ∧ s.vm.findClass C = some cell.cls)
    (hM : Met l y (Cond.code y b n (some ty) :: WT) rm (va_Pc (.ref b0 :: As) B) (fun _ st oc t => oc = .returned (some (va_rf z)) ∧ t.heap = st.heap) 0 0 (fun _ => False)) (cb : CallB Rm s args own ix y b n (some ty) (Cond.code y b n (some ty) :: WT) rm 0 0 na) (im : Cond.instanceMethod y ∈ WT) (se : Cond.selects C y y ∈ WT)
    (hn : As.length = na) (hsz : ls.size = nL) (hst : st0 = As.reverse ++ .ref b0 :: rest) (hW : (rest.map fun v => v.category).sum ≤ 8) (hdg : decode cc pc = .ok (.invokevirtual ix, 3)) (hf : cells ≤ Rm.cells ∧ slots ≤ Rm.slots)
    (kk : W p l e Rm s m args below meth c H locs cells slots Q (F0 m (pc + 3) ls (va_rf z :: rest))) : W p l e Rm s m args below meth c H locs cells slots Q (F0 m pc ls st0) := by
  have hr := va_runV (l := l) (e := e) (R := Rm) (below := below) (meth := meth) (H := H) (locs := locs) (cells := cells) (slots := slots) (g := F0 m pc ls st0) (rest := rest) (C := C) (b := b0) (As := As) ⟨hx, hb, hml, hown, hT⟩ hM ⟨cb, hT _ im, hT _ se⟩ ⟨fun a U g mk q => ⟨q.1, hbl a U g mk q.2⟩, hrc, fun U hU hW => ⟨rfl, hB U hU hW⟩⟩ rfl hn hsz hst (lv_room hW) hdg hf
  intro T hT' X
  obtain ⟨v, st₀, t, T', L, h0, X', hL, e1, e2, ⟨hv, hh⟩, st⟩ := hr T hT' X
  cases hv
  have hL0 : L = [] := List.eq_nil_iff_forall_not_mem.mpr (fun q hq => hL q hq)
  subst hL0
  rw [List.append_nil] at X'
  obtain ⟨t2, a1, b1⟩ := kk T' (by rw [e1, hh, h0]) X'
  exact ⟨t2, st t2 a1, b1⟩
theorem krs_q {z : Option Nat} {own : String} (hx : p.tables.exec = Jvm.exec) (hb : c.code = cc) (hml : c.maxLocals = nL) (hown : s.vm.findClass own = some m.cls) (hT : ∀ w ∈ WT, w.before args s = true) (hbl : ∀ (a : Array Value) (U : State) (g : JFrame) (mk : MethodId), B U → B (U.calling g mk a)) (hB : ∀ U : State, U.heap = H → s.WarmedH U.vm → B U)
    (hM : Met l y (Cond.code y b n (some ty) :: WT) rm (va_Pc As B) (fun _ st oc t => oc = .returned (some (va_rf z)) ∧ t.heap = st.heap) 0 0 (fun _ => False)) (cb : CallB Rm s args own ix y b n (some ty) (Cond.code y b n (some ty) :: WT) rm 0 0 na) (sm : Cond.static y ∈ WT)
    (hn : As.length = na) (hsz : ls.size = nL) (hst : st0 = As.reverse ++ rest) (hW : (rest.map fun v => v.category).sum ≤ 8) (hdg : decode cc pc = .ok (.invokestatic ix, 3)) (hf : cells ≤ Rm.cells ∧ slots ≤ Rm.slots)
    (kk : W p l e Rm s m args below meth c H locs cells slots Q (F0 m (pc + 3) ls (va_rf z :: rest))) : W p l e Rm s m args below meth c H locs cells slots Q (F0 m pc ls st0) := by
  have hr := va_runS (l := l) (e := e) (R := Rm) (below := below) (meth := meth) (H := H) (locs := locs) (cells := cells) (slots := slots) (g := F0 m pc ls st0) (rest := rest) ⟨hx, hb, hml, hown, hT⟩ hM ⟨cb, hT _ sm⟩ ⟨fun a U g mk q => ⟨q.1, hbl a U g mk q.2⟩, fun U hU hW => ⟨rfl, hB U hU hW⟩⟩ rfl hn hsz hst (lv_room hW) hdg hf
  intro T hT' X
  obtain ⟨v, st₀, t, T', L, h0, X', hL, e1, e2, ⟨hv, hh⟩, st⟩ := hr T hT' X
  cases hv
  have hL0 : L = [] := List.eq_nil_iff_forall_not_mem.mpr (fun q hq => hL q hq)
  subst hL0
  rw [List.append_nil] at X'
  obtain ⟨t2, a1, b1⟩ := kk T' (by rw [e1, hh, h0]) X'
  exact ⟨t2, st t2 a1, b1⟩
end RO
/-! ===== the class: readers ===== -/
def cB (dC : Nat → ClassId) (dI : Nat → Nat → Nat) (ad : Nat → Nat) (cI cZ cW cJ : ClassId) (E : PE) (F G : Nat → Nat → Int32) (P : Nat → Nat → Option Nat) (N : Nat → Nat) : State → Prop := fun U => cK dC dI cI cZ cW cJ U ∧ va_P (dC, dI) CL (cX ad cI cZ cW cJ F G P N) U.heap ∧ pS dC dI cI E (fun _ => False) U.heap ∧ iS U
theorem cB_bl {dC : Nat → ClassId} {dI : Nat → Nat → Nat} {ad : Nat → Nat} {cI cZ cW cJ : ClassId} {E : PE} {F G : Nat → Nat → Int32} {P : Nat → Nat → Option Nat} {N : Nat → Nat} (a : Array Value) (U : State) (g : JFrame) (mk : MethodId) (h : cB dC dI ad cI cZ cW cJ E F G P N U) : cB dC dI ad cI cZ cW cJ E F G P N (U.calling g mk a) := ⟨va_K.moved (u := U) (U := U.calling g mk a) (Vm.Alike.refl U.vm) h.1, h.2.1, h.2.2.1, h.2.2.2.moved (u := U) (U := U.calling g mk a) (Vm.Alike.refl U.vm)⟩
theorem cB_to {dC : Nat → ClassId} {dI : Nat → Nat → Nat} {ad : Nat → Nat} {cI cZ cW cJ : ClassId} {E : PE} {F G : Nat → Nat → Int32} {P : Nat → Nat → Option Nat} {N : Nat → Nat} {s : State} {H : Heap} (hK : cK dC dI cI cZ cW cJ s) (hP : va_P (dC, dI) CL (cX ad cI cZ cW cJ F G P N) H) (hp : pS dC dI cI E (fun _ => False) H) (hi : iS s) (U : State) (hU : U.heap = H) (hW : s.WarmedH U.vm) : cB dC dI ad cI cZ cW cJ E F G P N U := ⟨va_K.moved hW.alike hK, by rw [hU]; exact hP, by rw [hU]; exact hp, hi.moved hW.alike⟩
abbrev cPre (dC : Nat → ClassId) (dI : Nat → Nat → Nat) (ad : Nat → Nat) (cI cZ cW cJ : ClassId) (adK adV : Nat → Nat) (E : PE) (F G : Nat → Nat → Int32) (P : Nat → Nat → Option Nat) (N : Nat → Nat) (sz : Nat) : State → Prop := fun U => U.heap.size = sz ∧ va_P (dC, dI) CL (cX ad cI cZ cW cJ F G P N) U.heap ∧ cK dC dI cI cZ cW cJ U ∧ va_D (fun _ => True) (cX ad cI cZ cW cJ F G P N) ∧ tS adK adV (va_A (cX ad cI cZ cW cJ F G P N) sz) U U.heap ∧ tR adK U ∧ pS dC dI cI E (va_A (cX ad cI cZ cW cJ F G P N) sz) U.heap ∧ iS U
abbrev cPost (dC : Nat → ClassId) (dI : Nat → Nat → Nat) (ad : Nat → Nat) (cI cZ cW cJ : ClassId) (A : Nat → Prop) : CU → State → Prop := fun u t => va_P (dC, dI) CL (cX ad cI cZ cW cJ u.1 u.2.1 u.2.2.1 u.2.2.2) t.heap ∧ cK dC dI cI cZ cW cJ t ∧ va_D A (cX ad cI cZ cW cJ u.1 u.2.1 u.2.2.1 u.2.2.2)
def CMi (l : Launch) (y : MethodName) (b : ByteArray) (n : Nat) (ty : FieldType) (rm : Room) (E : PE) (As : (Nat → Nat) → List Value) (F G : Nat → Nat → Int32) (P : Nat → Nat → Option Nat) (N : Nat → Nat) (f : Option (Int32 × CU)) : Prop :=
  ∀ (z : Int32 × CU), f = some z → ∀ (dC : Nat → ClassId) (dI : Nat → Nat → Nat) (ad : Nat → Nat) (cI cZ cW cJ : ClassId) (adK adV : Nat → Nat) (sz : Nat), Met l y (Cond.code y b n (some ty) :: WT) rm (va_Pc (As ad) (cPre dC dI ad cI cZ cW cJ adK adV E F G P N sz)) (va_Qi (fun r (u : CU) => (r, u) = z) (cPost dC dI ad cI cZ cW cJ (va_A (cX ad cI cZ cW cJ F G P N) sz)) (va_A (cX ad cI cZ cW cJ F G P N) sz)) 0 0 (va_A (cX ad cI cZ cW cJ F G P N) sz)
def CMv (l : Launch) (y : MethodName) (b : ByteArray) (n : Nat) (rm : Room) (E : PE) (As : (Nat → Nat) → List Value) (F G : Nat → Nat → Int32) (P : Nat → Nat → Option Nat) (N : Nat → Nat) (f : Option CU) : Prop :=
  ∀ (z : CU), f = some z → ∀ (dC : Nat → ClassId) (dI : Nat → Nat → Nat) (ad : Nat → Nat) (cI cZ cW cJ : ClassId) (adK adV : Nat → Nat) (sz : Nat), Met l y (Cond.code y b n none :: WT) rm (va_Pc (As ad) (cPre dC dI ad cI cZ cW cJ adK adV E F G P N sz)) (va_Qv (fun (u : CU) => u = z) (cPost dC dI ad cI cZ cW cJ (va_A (cX ad cI cZ cW cJ F G P N) sz)) (va_A (cX ad cI cZ cW cJ F G P N) sz)) 0 0 (va_A (cX ad cI cZ cW cJ F G P N) sz)
def CMl (l : Launch) (y : MethodName) (b : ByteArray) (n : Nat) (rm : Room) (E : PE) (As : (Nat → Nat) → List Value) (F G : Nat → Nat → Int32) (P : Nat → Nat → Option Nat) (N : Nat → Nat) (f : Option (Int64 × CU)) : Prop :=
  ∀ (z : Int64 × CU), f = some z → ∀ (dC : Nat → ClassId) (dI : Nat → Nat → Nat) (ad : Nat → Nat) (cI cZ cW cJ : ClassId) (adK adV : Nat → Nat) (sz : Nat), Met l y (Cond.code y b n (some .long) :: WT) rm (va_Pc (As ad) (cPre dC dI ad cI cZ cW cJ adK adV E F G P N sz)) (va_Ql (fun r (u : CU) => (r, u) = z) (cPost dC dI ad cI cZ cW cJ (va_A (cX ad cI cZ cW cJ F G P N) sz)) (va_A (cX ad cI cZ cW cJ F G P N) sz)) 0 0 (va_A (cX ad cI cZ cW cJ F G P N) sz)
def cC (p : Program) (s : State) (m : MethodId) (args : Array Value) (c : Code) (cc : ByteArray) (nL : Nat) (own : String) (dC : Nat → ClassId) (dI : Nat → Nat → Nat) (cI cZ cW cJ : ClassId) (A : Nat → Prop) (adK adV : Nat → Nat) (E : PE) : Prop := p.tables.exec = Jvm.exec ∧ c.code = cc ∧ c.maxLocals = nL ∧ s.vm.findClass own = some m.cls ∧ (∀ w ∈ WT, w.before args s = true) ∧ cK dC dI cI cZ cW cJ s ∧ tS adK adV A s s.heap ∧ tR adK s ∧ pS dC dI cI E A s.heap ∧ iS s
abbrev cQi (dC : Nat → ClassId) (dI : Nat → Nat → Nat) (ad : Nat → Nat) (cI cZ cW cJ : ClassId) (A : Nat → Prop) (below : List Frame) (args : Array Value) (s : State) (z : Int32 × CU) : State → Prop := MQ below (va_Qi (fun r (u : CU) => (r, u) = z) (cPost dC dI ad cI cZ cW cJ A) A) args s 0 0 A
abbrev cQv (dC : Nat → ClassId) (dI : Nat → Nat → Nat) (ad : Nat → Nat) (cI cZ cW cJ : ClassId) (A : Nat → Prop) (below : List Frame) (args : Array Value) (s : State) (z : CU) : State → Prop := MQ below (va_Qv (fun (u : CU) => u = z) (cPost dC dI ad cI cZ cW cJ A) A) args s 0 0 A
abbrev cQl (dC : Nat → ClassId) (dI : Nat → Nat → Nat) (ad : Nat → Nat) (cI cZ cW cJ : ClassId) (A : Nat → Prop) (below : List Frame) (args : Array Value) (s : State) (z : Int64 × CU) : State → Prop := MQ below (va_Ql (fun r (u : CU) => (r, u) = z) (cPost dC dI ad cI cZ cW cJ A) A) args s 0 0 A
section CE
variable {p : Program} {l : Launch} {e : Env} {Rm rm : Room} {s : State} {m : MethodId} {args : Array Value} {below : List Frame} {meth : Method} {c : Code} {H : Heap} {locs : List Loc} {cells slots : Nat} {Q : State → Prop} {cc b : ByteArray} {n nL pc ix na : Nat} {ls : Array Slot} {rest st0 : List Value} {As : (Nat → Nat) → List Value} {adK adV : Nat → Nat} {E : PE} {own : String} {dC : Nat → ClassId} {dI : Nat → Nat → Nat} {ad : Nat → Nat} {cI cZ cW cJ : ClassId} {F G F' G' : Nat → Nat → Int32} {P P' : Nat → Nat → Option Nat} {N N' : Nat → Nat} {A : Nat → Prop} {H0 : Heap} {y : MethodName} {ty : FieldType} {u : CU}
theorem en_ci {f : Option (Int32 × CU)} (hy : plainName y.cls = true) (hlen : ∀ ad : Nat → Nat, (lg_sl (As ad)).length ≤ n) (body : ∀ (z : Int32 × CU), f = some z → ∀ (p : Program) (e : Env) (s : State) (m : MethodId) (args : Array Value) (below : List Frame) (meth : Method) (c : Code) (dC : Nat → ClassId) (dI : Nat → Nat → Nat) (ad : Nat → Nat) (cI cZ cW cJ : ClassId) (A : Nat → Prop) (adK adV : Nat → Nat) (ls : Array Slot), cC p s m args c b n y.cls dC dI cI cZ cW cJ A adK adV E → (∀ q, s.heap.size ≤ q → A q) → cH A s.heap dC dI ad cI cZ cW cJ F G P N s.heap [] → meth.sig.returnType = some ty → meth.locks = false → lv_has ls n (lv_args 0 (As ad)) → W p l e rm s m args below meth c s.heap [] 0 0 (cQi dC dI ad cI cZ cW cJ A below args s z) (F0 m 0 ls [])) : CMi l y b n ty rm E As F G P N f := by
  intro z hz dC dI ad cI cZ cW cJ adK adV sz
  refine Met.ofW (cc := b) (maxL := n) (ret := some ty) hy rfl ?_
  intro p e s m args below meth c s₁ B hml hv
  obtain ⟨rfl, hsz, hP, hK, hD0, hTS, hTR, hPS, hIS⟩ := hv
  have hts := atoms_spec (ws := Cond.code y b n (some ty) :: WT) B.pre
  subst hsz
  obtain ⟨ls, hE, hl⟩ := en_ls m (As ad) (hlen ad)
  rw [hE]
  exact body z hz p e s m _ below meth c dC dI ad cI cZ cW cJ (va_A (cX ad cI cZ cW cJ F G P N) s.heap.size) adK adV ls ⟨B.exec, B.bytes, hml, findClass_of_methodNamed B.named, fun w hw => hts w (List.mem_cons_of_mem _ hw), hK, hTS, hTR, hPS, hIS⟩ (fun q h => Or.inr h) ⟨hP, hD0.self, va_S.rf⟩ B.returns B.notSynchronized hl
theorem en_cv {f : Option CU} (hy : plainName y.cls = true) (hlen : ∀ ad : Nat → Nat, (lg_sl (As ad)).length ≤ n) (body : ∀ (z : CU), f = some z → ∀ (p : Program) (e : Env) (s : State) (m : MethodId) (args : Array Value) (below : List Frame) (meth : Method) (c : Code) (dC : Nat → ClassId) (dI : Nat → Nat → Nat) (ad : Nat → Nat) (cI cZ cW cJ : ClassId) (A : Nat → Prop) (adK adV : Nat → Nat) (ls : Array Slot), cC p s m args c b n y.cls dC dI cI cZ cW cJ A adK adV E → (∀ q, s.heap.size ≤ q → A q) → cH A s.heap dC dI ad cI cZ cW cJ F G P N s.heap [] → meth.sig.returnType = none → meth.locks = false → lv_has ls n (lv_args 0 (As ad)) → W p l e rm s m args below meth c s.heap [] 0 0 (cQv dC dI ad cI cZ cW cJ A below args s z) (F0 m 0 ls [])) : CMv l y b n rm E As F G P N f := by
  intro z hz dC dI ad cI cZ cW cJ adK adV sz
  refine Met.ofW (cc := b) (maxL := n) (ret := none) hy rfl ?_
  intro p e s m args below meth c s₁ B hml hv
  obtain ⟨rfl, hsz, hP, hK, hD0, hTS, hTR, hPS, hIS⟩ := hv
  have hts := atoms_spec (ws := Cond.code y b n none :: WT) B.pre
  subst hsz
  obtain ⟨ls, hE, hl⟩ := en_ls m (As ad) (hlen ad)
  rw [hE]
  exact body z hz p e s m _ below meth c dC dI ad cI cZ cW cJ (va_A (cX ad cI cZ cW cJ F G P N) s.heap.size) adK adV ls ⟨B.exec, B.bytes, hml, findClass_of_methodNamed B.named, fun w hw => hts w (List.mem_cons_of_mem _ hw), hK, hTS, hTR, hPS, hIS⟩ (fun q h => Or.inr h) ⟨hP, hD0.self, va_S.rf⟩ B.returns B.notSynchronized hl
theorem en_cl {f : Option (Int64 × CU)} (hy : plainName y.cls = true) (hlen : ∀ ad : Nat → Nat, (lg_sl (As ad)).length ≤ n) (body : ∀ (z : Int64 × CU), f = some z → ∀ (p : Program) (e : Env) (s : State) (m : MethodId) (args : Array Value) (below : List Frame) (meth : Method) (c : Code) (dC : Nat → ClassId) (dI : Nat → Nat → Nat) (ad : Nat → Nat) (cI cZ cW cJ : ClassId) (A : Nat → Prop) (adK adV : Nat → Nat) (ls : Array Slot), cC p s m args c b n y.cls dC dI cI cZ cW cJ A adK adV E → (∀ q, s.heap.size ≤ q → A q) → cH A s.heap dC dI ad cI cZ cW cJ F G P N s.heap [] → meth.sig.returnType = some .long → meth.locks = false → lv_has ls n (lv_args 0 (As ad)) → W p l e rm s m args below meth c s.heap [] 0 0 (cQl dC dI ad cI cZ cW cJ A below args s z) (F0 m 0 ls [])) : CMl l y b n rm E As F G P N f := by
  intro z hz dC dI ad cI cZ cW cJ adK adV sz
  refine Met.ofW (cc := b) (maxL := n) (ret := some .long) hy rfl ?_
  intro p e s m args below meth c s₁ B hml hv
  obtain ⟨rfl, hsz, hP, hK, hD0, hTS, hTR, hPS, hIS⟩ := hv
  have hts := atoms_spec (ws := Cond.code y b n (some .long) :: WT) B.pre
  subst hsz
  obtain ⟨ls, hE, hl⟩ := en_ls m (As ad) (hlen ad)
  rw [hE]
  exact body z hz p e s m _ below meth c dC dI ad cI cZ cW cJ (va_A (cX ad cI cZ cW cJ F G P N) s.heap.size) adK adV ls ⟨B.exec, B.bytes, hml, findClass_of_methodNamed B.named, fun w hw => hts w (List.mem_cons_of_mem _ hw), hK, hTS, hTR, hPS, hIS⟩ (fun q h => Or.inr h) ⟨hP, hD0.self, va_S.rf⟩ B.returns B.notSynchronized hl
theorem rt_ci {z : Int32 × CU} {x : Int32} (C : cC p s m args c cc nL own dC dI cI cZ cW cJ A adK adV E) (h : cH A s.heap dC dI ad cI cZ cW cJ F G P N H locs) (hr : meth.sig.returnType = some ty) (hlk : meth.locks = false) (hf : some (x, F, G, P, N) = some z) (hn : narrow ty (.int x) = .int x) (hdg : decode cc pc = .ok (.ireturn, 1)) : W p l e Rm s m args below meth c H locs 0 0 (cQi dC dI ad cI cZ cW cJ A below args s z) (F0 m pc ls [.int x]) := by
  cases hf
  exact W.zret C.1 C.2.1 hr hn (fun t ht hW => ⟨⟨x, (F, G, P, N), rfl, rfl, by rw [ht]; exact h.1, va_K.moved hW.alike C.2.2.2.2.2.1, h.2.1⟩, h.2.2.F ht⟩) h.2.2.2.2 hdg hlk
theorem rt_cl {z : Int64 × CU} {x : Int64} (C : cC p s m args c cc nL own dC dI cI cZ cW cJ A adK adV E) (h : cH A s.heap dC dI ad cI cZ cW cJ F G P N H locs) (hr : meth.sig.returnType = some .long) (hlk : meth.locks = false) (hf : some (x, F, G, P, N) = some z) (hdg : decode cc pc = .ok (.lreturn, 1)) : W p l e Rm s m args below meth c H locs 0 0 (cQl dC dI ad cI cZ cW cJ A below args s z) (F0 m pc ls [.long x]) := by
  cases hf
  exact W.lret C.1 C.2.1 hr (fun t ht hW => ⟨⟨x, (F, G, P, N), rfl, rfl, by rw [ht]; exact h.1, va_K.moved hW.alike C.2.2.2.2.2.1, h.2.1⟩, h.2.2.F ht⟩) h.2.2.2.2 hdg hlk
theorem rt_cv {z : CU} (C : cC p s m args c cc nL own dC dI cI cZ cW cJ A adK adV E) (h : cH A s.heap dC dI ad cI cZ cW cJ F G P N H locs) (hr : meth.sig.returnType = none) (hlk : meth.locks = false) (hf : some (F, G, P, N) = some z) (hdg : decode cc pc = .ok (.return_, 1)) : W p l e Rm s m args below meth c H locs 0 0 (cQv dC dI ad cI cZ cW cJ A below args s z) (F0 m pc ls []) := by
  cases hf
  exact W.vret C.1 C.2.1 hr (fun t ht hW => ⟨⟨(F, G, P, N), rfl, rfl, by rw [ht]; exact h.1, va_K.moved hW.alike C.2.2.2.2.2.1, h.2.1⟩, h.2.2.F ht⟩) h.2.2.2.2 hdg hlk
theorem cH_free (h : cH A H0 dC dI ad cI cZ cW cJ F G P N H locs) (hA : ∀ q, H0.size ≤ q → A q) : ∀ q, va_A (cX ad cI cZ cW cJ F G P N) H.size q → A q := fun q hq => by
  rcases hq with ⟨k, e, hk⟩ | hq
  · exact h.2.1.2 k _ hk
  · exact hA q (Nat.le_trans h.2.2.1 hq)
/-- a call of one of the model's instance methods by another -/
theorem kx_i {f : Option (Int32 × CU)} {r : Int32} (C : cC p s m args c cc nL own dC dI cI cZ cW cJ A adK adV E) (h : cH A s.heap dC dI ad cI cZ cW cJ F G P N H locs) (hA : ∀ q, s.heap.size ≤ q → A q) {C0 : String} {b0 : Nat} {As1 : List Value} (hAs : As ad = .ref b0 :: As1) (hrc : ∃ cell : Cell, H[b0]? = some cell ∧ cell.vm.isStatics = false ∧ s.vm.findClass C0 = some cell.cls) (hM : CMi l y b n ty rm E As F G P N f) (hf : f = some (r, F', G', P', N'))
    (cb : CallB Rm s args own ix y b n (some ty) (Cond.code y b n (some ty) :: WT) rm 0 0 na) (im : Cond.instanceMethod y ∈ WT) (se : Cond.selects C0 y y ∈ WT)
    (hn : As1.length = na) (hsz : ls.size = nL) (hst : st0 = As1.reverse ++ .ref b0 :: rest) (hW : (rest.map fun v => v.category).sum ≤ 8) (hdg : decode cc pc = .ok (.invokevirtual ix, 3)) (hcs : cells ≤ Rm.cells ∧ slots ≤ Rm.slots)
    (kk : ∀ (H1 : Heap) (locs1 : List Loc), cH A s.heap dC dI ad cI cZ cW cJ F' G' P' N' H1 locs1 → W p l e Rm s m args below meth c H1 locs1 cells slots Q (F0 m (pc + 3) ls (.int r :: rest))) : W p l e Rm s m args below meth c H locs cells slots Q (F0 m pc ls st0) := by
  refine va_calli (va_runV (C := C0) (b := b0) (As := As1) (rest := rest) ⟨C.1, C.2.1, C.2.2.1, C.2.2.2.1, C.2.2.2.2.1⟩ (hAs ▸ hM _ hf dC dI ad cI cZ cW cJ adK adV H.size) ⟨cb, C.2.2.2.2.1 _ im, C.2.2.2.2.1 _ se⟩ ⟨fun a U g mk q => ⟨q.1, q.2.1, q.2.2.1, va_K.moved (u := U) (U := U.calling g mk a) (Vm.Alike.refl U.vm) q.2.2.2.1, q.2.2.2.2.1, q.2.2.2.2.2.1.moved (u := U) (U := U.calling g mk a) (Vm.Alike.refl U.vm), q.2.2.2.2.2.2.1.same rfl, q.2.2.2.2.2.2.2.1, q.2.2.2.2.2.2.2.2.moved (u := U) (U := U.calling g mk a) (Vm.Alike.refl U.vm)⟩, hrc, fun U hU hW => ⟨rfl, by rw [hU], by rw [hU]; exact h.1, va_K.moved hW.alike C.2.2.2.2.2.1, h.2.1.weaken (fun _ _ _ _ => trivial), by rw [hU]; exact ((C.2.2.2.2.2.2.1.kept h.2.2.2.1).moved hW.alike).narrow (cH_free h hA), C.2.2.2.2.2.2.2.1.warm hW, by rw [hU]; exact (C.2.2.2.2.2.2.2.2.1.kept h.2.2.2.1).narrow (cH_free h hA), C.2.2.2.2.2.2.2.2.2.moved hW.alike⟩⟩ rfl hn hsz hst (lv_room hW) hdg hcs) h.2.2 (fun q _ hq => cH_free h hA q hq) (cH_free h hA) (fun r1 u1 t H1 locs1 ht hvm hw hB hz1 hk1 hS => ?_)
  cases hw
  exact kk H1 locs1 ⟨by rw [← ht]; exact hB.1, hB.2.2.weaken (fun _ q _ hq => cH_free h hA _ hq), hS⟩
theorem kx_l {f : Option (Int64 × CU)} {r : Int64} (C : cC p s m args c cc nL own dC dI cI cZ cW cJ A adK adV E) (h : cH A s.heap dC dI ad cI cZ cW cJ F G P N H locs) (hA : ∀ q, s.heap.size ≤ q → A q) {C0 : String} {b0 : Nat} {As1 : List Value} (hAs : As ad = .ref b0 :: As1) (hrc : ∃ cell : Cell, H[b0]? = some cell ∧ cell.vm.isStatics = false ∧ s.vm.findClass C0 = some cell.cls) (hM : CMl l y b n rm E As F G P N f) (hf : f = some (r, F', G', P', N'))
    (cb : CallB Rm s args own ix y b n (some .long) (Cond.code y b n (some .long) :: WT) rm 0 0 na) (im : Cond.instanceMethod y ∈ WT) (se : Cond.selects C0 y y ∈ WT)
    (hn : As1.length = na) (hsz : ls.size = nL) (hst : st0 = As1.reverse ++ .ref b0 :: rest) (hW : (rest.map fun v => v.category).sum ≤ 8) (hdg : decode cc pc = .ok (.invokevirtual ix, 3)) (hcs : cells ≤ Rm.cells ∧ slots ≤ Rm.slots)
    (kk : ∀ (H1 : Heap) (locs1 : List Loc), cH A s.heap dC dI ad cI cZ cW cJ F' G' P' N' H1 locs1 → W p l e Rm s m args below meth c H1 locs1 cells slots Q (F0 m (pc + 3) ls (.long r :: rest))) : W p l e Rm s m args below meth c H locs cells slots Q (F0 m pc ls st0) := by
  refine va_calll (va_runV (C := C0) (b := b0) (As := As1) (rest := rest) ⟨C.1, C.2.1, C.2.2.1, C.2.2.2.1, C.2.2.2.2.1⟩ (hAs ▸ hM _ hf dC dI ad cI cZ cW cJ adK adV H.size) ⟨cb, C.2.2.2.2.1 _ im, C.2.2.2.2.1 _ se⟩ ⟨fun a U g mk q => ⟨q.1, q.2.1, q.2.2.1, va_K.moved (u := U) (U := U.calling g mk a) (Vm.Alike.refl U.vm) q.2.2.2.1, q.2.2.2.2.1, q.2.2.2.2.2.1.moved (u := U) (U := U.calling g mk a) (Vm.Alike.refl U.vm), q.2.2.2.2.2.2.1.same rfl, q.2.2.2.2.2.2.2.1, q.2.2.2.2.2.2.2.2.moved (u := U) (U := U.calling g mk a) (Vm.Alike.refl U.vm)⟩, hrc, fun U hU hW => ⟨rfl, by rw [hU], by rw [hU]; exact h.1, va_K.moved hW.alike C.2.2.2.2.2.1, h.2.1.weaken (fun _ _ _ _ => trivial), by rw [hU]; exact ((C.2.2.2.2.2.2.1.kept h.2.2.2.1).moved hW.alike).narrow (cH_free h hA), C.2.2.2.2.2.2.2.1.warm hW, by rw [hU]; exact (C.2.2.2.2.2.2.2.2.1.kept h.2.2.2.1).narrow (cH_free h hA), C.2.2.2.2.2.2.2.2.2.moved hW.alike⟩⟩ rfl hn hsz hst (lv_room hW) hdg hcs) h.2.2 (fun q _ hq => cH_free h hA q hq) (cH_free h hA) (fun r1 u1 t H1 locs1 ht hvm hw hB hz1 hk1 hS => ?_)
  cases hw
  exact kk H1 locs1 ⟨by rw [← ht]; exact hB.1, hB.2.2.weaken (fun _ q _ hq => cH_free h hA _ hq), hS⟩
theorem kx_v {f : Option CU} (C : cC p s m args c cc nL own dC dI cI cZ cW cJ A adK adV E) (h : cH A s.heap dC dI ad cI cZ cW cJ F G P N H locs) (hA : ∀ q, s.heap.size ≤ q → A q) {C0 : String} {b0 : Nat} {As1 : List Value} (hAs : As ad = .ref b0 :: As1) (hrc : ∃ cell : Cell, H[b0]? = some cell ∧ cell.vm.isStatics = false ∧ s.vm.findClass C0 = some cell.cls) (hM : CMv l y b n rm E As F G P N f) (hf : f = some (F', G', P', N'))
    (cb : CallB Rm s args own ix y b n none (Cond.code y b n none :: WT) rm 0 0 na) (im : Cond.instanceMethod y ∈ WT) (se : Cond.selects C0 y y ∈ WT)
    (hn : As1.length = na) (hsz : ls.size = nL) (hst : st0 = As1.reverse ++ .ref b0 :: rest) (hW : (rest.map fun v => v.category).sum ≤ 8) (hdg : decode cc pc = .ok (.invokevirtual ix, 3)) (hcs : cells ≤ Rm.cells ∧ slots ≤ Rm.slots)
    (kk : ∀ (H1 : Heap) (locs1 : List Loc), cH A s.heap dC dI ad cI cZ cW cJ F' G' P' N' H1 locs1 → W p l e Rm s m args below meth c H1 locs1 cells slots Q (F0 m (pc + 3) ls rest)) : W p l e Rm s m args below meth c H locs cells slots Q (F0 m pc ls st0) := by
  refine va_callv (va_runV (C := C0) (b := b0) (As := As1) (rest := rest) ⟨C.1, C.2.1, C.2.2.1, C.2.2.2.1, C.2.2.2.2.1⟩ (hAs ▸ hM _ hf dC dI ad cI cZ cW cJ adK adV H.size) ⟨cb, C.2.2.2.2.1 _ im, C.2.2.2.2.1 _ se⟩ ⟨fun a U g mk q => ⟨q.1, q.2.1, q.2.2.1, va_K.moved (u := U) (U := U.calling g mk a) (Vm.Alike.refl U.vm) q.2.2.2.1, q.2.2.2.2.1, q.2.2.2.2.2.1.moved (u := U) (U := U.calling g mk a) (Vm.Alike.refl U.vm), q.2.2.2.2.2.2.1.same rfl, q.2.2.2.2.2.2.2.1, q.2.2.2.2.2.2.2.2.moved (u := U) (U := U.calling g mk a) (Vm.Alike.refl U.vm)⟩, hrc, fun U hU hW => ⟨rfl, by rw [hU], by rw [hU]; exact h.1, va_K.moved hW.alike C.2.2.2.2.2.1, h.2.1.weaken (fun _ _ _ _ => trivial), by rw [hU]; exact ((C.2.2.2.2.2.2.1.kept h.2.2.2.1).moved hW.alike).narrow (cH_free h hA), C.2.2.2.2.2.2.2.1.warm hW, by rw [hU]; exact (C.2.2.2.2.2.2.2.2.1.kept h.2.2.2.1).narrow (cH_free h hA), C.2.2.2.2.2.2.2.2.2.moved hW.alike⟩⟩ rfl hn hsz hst (lv_room hW) hdg hcs) h.2.2 (fun q _ hq => cH_free h hA q hq) (cH_free h hA) (fun u1 t H1 locs1 ht hvm hw hB hz1 hk1 hS => ?_)
  cases hw
  exact kk H1 locs1 ⟨by rw [← ht]; exact hB.1, hB.2.2.weaken (fun _ q _ hq => cH_free h hA _ hq), hS⟩
theorem cpS (hp : pS dC dI cI E A s.heap) (h : cH A s.heap dC dI ad cI cZ cW cJ F G P N H locs) : pS dC dI cI E (fun _ => False) H := (hp.kept h.2.2.2.1).narrow (fun _ q => q.elim)
theorem ctS (hp : tS adK adV A s s.heap) (h : cH A s.heap dC dI ad cI cZ cW cJ F G P N H locs) : tS adK adV (fun _ => False) s H := (hp.kept h.2.2.2.1).narrow (fun _ q => q.elim)
end CE
