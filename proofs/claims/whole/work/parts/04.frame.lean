/-! ===== contracts of the model's methods: f is the pure answer; where it is 'some', the method returns it ===== -/
abbrev mPre (dC : Nat → ClassId) (dI : Nat → Nat → Nat) (ad : Nat → Nat) (cI cZ : ClassId) (adK adV : Nat → Nat) (I : Nat → Int32) (R : Nat → Nat → Int32) (sz : Nat) : State → Prop := fun U => U.heap.size = sz ∧ va_P (dC, dI) CL (mX ad cI cZ I R) U.heap ∧ mK dC dI cI cZ U ∧ va_D (fun _ => True) (mX ad cI cZ I R) ∧ tS adK adV (va_A (mX ad cI cZ I R) sz) U U.heap ∧ tR adK U
abbrev mPost (dC : Nat → ClassId) (dI : Nat → Nat → Nat) (ad : Nat → Nat) (cI cZ : ClassId) (A : Nat → Prop) : MU → State → Prop := fun u t => va_P (dC, dI) CL (mX ad cI cZ u.1 u.2) t.heap ∧ mK dC dI cI cZ t ∧ va_D A (mX ad cI cZ u.1 u.2)
def MMi (l : Launch) (y : MethodName) (b : ByteArray) (n : Nat) (ty : FieldType) (rm : Room) (As : (Nat → Nat) → (Nat → Nat) → List Value) (I : Nat → Int32) (R : Nat → Nat → Int32) (f : Option (Int32 × MU)) : Prop :=
  ∀ (z : Int32 × MU), f = some z → ∀ (dC : Nat → ClassId) (dI : Nat → Nat → Nat) (ad : Nat → Nat) (cI cZ : ClassId) (adK adV : Nat → Nat) (sz : Nat), Met l y (Cond.code y b n (some ty) :: WT) rm (va_Pc (.ref (ad 0) :: As ad adK) (mPre dC dI ad cI cZ adK adV I R sz)) (va_Qi (fun r (u : MU) => (r, u) = z) (mPost dC dI ad cI cZ (va_A (mX ad cI cZ I R) sz)) (va_A (mX ad cI cZ I R) sz)) 0 0 (va_A (mX ad cI cZ I R) sz)
def MMv (l : Launch) (y : MethodName) (b : ByteArray) (n : Nat) (rm : Room) (As : (Nat → Nat) → (Nat → Nat) → List Value) (I : Nat → Int32) (R : Nat → Nat → Int32) (f : Option MU) : Prop :=
  ∀ (z : MU), f = some z → ∀ (dC : Nat → ClassId) (dI : Nat → Nat → Nat) (ad : Nat → Nat) (cI cZ : ClassId) (adK adV : Nat → Nat) (sz : Nat), Met l y (Cond.code y b n none :: WT) rm (va_Pc (.ref (ad 0) :: As ad adK) (mPre dC dI ad cI cZ adK adV I R sz)) (va_Qv (fun (u : MU) => u = z) (mPost dC dI ad cI cZ (va_A (mX ad cI cZ I R) sz)) (va_A (mX ad cI cZ I R) sz)) 0 0 (va_A (mX ad cI cZ I R) sz)
def MMl (l : Launch) (y : MethodName) (b : ByteArray) (n : Nat) (rm : Room) (As : (Nat → Nat) → (Nat → Nat) → List Value) (I : Nat → Int32) (R : Nat → Nat → Int32) (f : Option (Int64 × MU)) : Prop :=
  ∀ (z : Int64 × MU), f = some z → ∀ (dC : Nat → ClassId) (dI : Nat → Nat → Nat) (ad : Nat → Nat) (cI cZ : ClassId) (adK adV : Nat → Nat) (sz : Nat), Met l y (Cond.code y b n (some .long) :: WT) rm (va_Pc (.ref (ad 0) :: As ad adK) (mPre dC dI ad cI cZ adK adV I R sz)) (va_Ql (fun r (u : MU) => (r, u) = z) (mPost dC dI ad cI cZ (va_A (mX ad cI cZ I R) sz)) (va_A (mX ad cI cZ I R) sz)) 0 0 (va_A (mX ad cI cZ I R) sz)
/-- static methods that touch no heap -/
def MSi (l : Launch) (y : MethodName) (b : ByteArray) (n : Nat) (ty : FieldType) (rm : Room) (As : List Value) (f : Option Int32) : Prop :=
  ∀ (z : Int32), f = some z → Met l y (Cond.code y b n (some ty) :: WT) rm (va_Pc As (fun _ => True)) (fun _ st oc t => oc = .returned (some (.int z)) ∧ t.heap = st.heap) 0 0 (fun _ => False)
def MSl (l : Launch) (y : MethodName) (b : ByteArray) (n : Nat) (rm : Room) (As : List Value) (f : Option Int64) : Prop :=
  ∀ (z : Int64), f = some z → Met l y (Cond.code y b n (some .long) :: WT) rm (va_Pc As (fun _ => True)) (fun _ st oc t => oc = .returned (some (.long z)) ∧ t.heap = st.heap) 0 0 (fun _ => False)
theorem mX_A {ad : Nat → Nat} {cI cZ : ClassId} {I I' : Nat → Int32} {R R' : Nat → Nat → Int32} {sz q : Nat} (h : va_A (mX ad cI cZ I R) sz q) : va_A (mX ad cI cZ I' R') sz q := by
  rcases h with ⟨k, e, h⟩ | h
  · rcases k with _ | _ | _ | _ | _ | _ | _ | _ | _ | _ | k
    all_goals first | (cases h; exact Or.inl ⟨_, _, rfl⟩) | skip
    · exact Or.inl ⟨0, _, by cases h; rfl⟩
    · exact Or.inl ⟨1, _, by cases h; rfl⟩
    · exact Or.inl ⟨2, _, by cases h; rfl⟩
    · exact Or.inl ⟨3, _, by cases h; rfl⟩
    · exact Or.inl ⟨4, _, by cases h; rfl⟩
    · exact Or.inl ⟨5, _, by cases h; rfl⟩
    · exact Or.inl ⟨6, _, by cases h; rfl⟩
    · exact Or.inl ⟨7, _, by cases h; rfl⟩
    · exact Or.inl ⟨8, _, by cases h; rfl⟩
    · exact Or.inl ⟨9, _, by cases h; rfl⟩
    · exact absurd h (by simp [mX])
  · exact Or.inr h
section MF
variable {p : Program} {l : Launch} {e : Env} {Rm rm : Room} {s : State} {m : MethodId} {args : Array Value} {below : List Frame} {meth : Method} {c : Code} {H : Heap} {locs : List Loc} {cells slots : Nat} {Q : State → Prop} {cc b : ByteArray} {n nL pc ix na : Nat} {ls : Array Slot} {rest st0 As : List Value} {dC : Nat → ClassId} {dI : Nat → Nat → Nat} {ad : Nat → Nat} {cI cZ : ClassId} {I : Nat → Int32} {R : Nat → Nat → Int32} {A : Nat → Prop} {H0 : Heap} {y : MethodName} {ty : FieldType} {u : MU}
/-- the words of a callee among a caller's -/
theorem goodW {y : MethodName} {b : ByteArray} {n : Nat} {r : Option FieldType} (h : Cond.code y b n r ∈ WT) : GoodIn WT (Cond.code y b n r :: WT) := fun w hw => by
  rcases List.mem_cons.mp hw with rfl | hw
  · exact ⟨h, wt_good h⟩
  · exact ⟨hw, wt_good hw⟩
theorem cbW {r : Option FieldType} {own : String} (n0 : Nat) (hT : ∀ w ∈ WT, w.before args s = true) (cd : Cond.code y b n r ∈ WT) (hrc : rm.cells = 0) (hrs : rm.slots = 0) (ini : Cond.initialized y.cls ∈ WT) (ml : Cond.methodLink own ix y ∈ WT)
    (hd : y.cls ≠ "java/lang/invoke/MethodHandle" ∧ y.cls ≠ "java/lang/invoke/VarHandle" ∧ (parseMethodDescriptor y.desc).map (fun d => d.parameters.length) = some n0) (hR : rm.frames + 1 ≤ Rm.frames ∧ 8 + (n + 11) + rm.locals ≤ Rm.locals) : CallB Rm s args own ix y b n r (Cond.code y b n r :: WT) rm 0 0 n0 :=
  callB_of n0 hT (goodW cd) rfl hrc hrs (hT _ ini) (hT _ ml) hd hR
/-- a pure static call -/
theorem ks_i {z : Int32} {own : String} (hx : p.tables.exec = Jvm.exec) (hb : c.code = cc) (hml : c.maxLocals = nL) (hown : s.vm.findClass own = some m.cls) (hT : ∀ w ∈ WT, w.before args s = true)
    (hM : Met l y (Cond.code y b n (some ty) :: WT) rm (va_Pc As (fun _ => True)) (fun _ st oc t => oc = .returned (some (.int z)) ∧ t.heap = st.heap) 0 0 (fun _ => False)) (cb : CallB Rm s args own ix y b n (some ty) (Cond.code y b n (some ty) :: WT) rm 0 0 na) (sm : Cond.static y ∈ WT)
    (hn : As.length = na) (hsz : ls.size = nL) (hst : st0 = As.reverse ++ rest) (hW : (rest.map fun v => v.category).sum ≤ 8) (hdg : decode cc pc = .ok (.invokestatic ix, 3)) (hf : cells ≤ Rm.cells ∧ slots ≤ Rm.slots)
    (kk : W p l e Rm s m args below meth c H locs cells slots Q (F0 m (pc + 3) ls (.int z :: rest))) : W p l e Rm s m args below meth c H locs cells slots Q (F0 m pc ls st0) := by
  have hr := va_runS (l := l) (e := e) (R := Rm) (below := below) (meth := meth) (H := H) (locs := locs) (cells := cells) (slots := slots) (g := F0 m pc ls st0) (rest := rest) ⟨hx, hb, hml, hown, hT⟩ hM ⟨cb, hT _ sm⟩ ⟨fun a U g mk q => q, fun U _ _ => ⟨rfl, trivial⟩⟩ rfl hn hsz hst (lv_room hW) hdg hf
  intro T hT' X
  obtain ⟨v, st₀, t, T', L, h0, X', hL, e1, e2, ⟨hv, hh⟩, st⟩ := hr T hT' X
  cases hv
  have hL0 : L = [] := List.eq_nil_iff_forall_not_mem.mpr (fun q hq => hL q hq)
  subst hL0
  rw [List.append_nil] at X'
  obtain ⟨t2, a1, b1⟩ := kk T' (by rw [e1, hh, h0]) X'
  exact ⟨t2, st t2 a1, b1⟩
theorem ks_l {z : Int64} {own : String} (hx : p.tables.exec = Jvm.exec) (hb : c.code = cc) (hml : c.maxLocals = nL) (hown : s.vm.findClass own = some m.cls) (hT : ∀ w ∈ WT, w.before args s = true)
    (hM : Met l y (Cond.code y b n (some .long) :: WT) rm (va_Pc As (fun _ => True)) (fun _ st oc t => oc = .returned (some (.long z)) ∧ t.heap = st.heap) 0 0 (fun _ => False)) (cb : CallB Rm s args own ix y b n (some .long) (Cond.code y b n (some .long) :: WT) rm 0 0 na) (sm : Cond.static y ∈ WT)
    (hn : As.length = na) (hsz : ls.size = nL) (hst : st0 = As.reverse ++ rest) (hW : (rest.map fun v => v.category).sum ≤ 8) (hdg : decode cc pc = .ok (.invokestatic ix, 3)) (hf : cells ≤ Rm.cells ∧ slots ≤ Rm.slots)
    (kk : W p l e Rm s m args below meth c H locs cells slots Q (F0 m (pc + 3) ls (.long z :: rest))) : W p l e Rm s m args below meth c H locs cells slots Q (F0 m pc ls st0) := by
  have hr := va_runS (l := l) (e := e) (R := Rm) (below := below) (meth := meth) (H := H) (locs := locs) (cells := cells) (slots := slots) (g := F0 m pc ls st0) (rest := rest) ⟨hx, hb, hml, hown, hT⟩ hM ⟨cb, hT _ sm⟩ ⟨fun a U g mk q => q, fun U _ _ => ⟨rfl, trivial⟩⟩ rfl hn hsz hst (lv_room hW) hdg hf
  intro T hT' X
  obtain ⟨v, st₀, t, T', L, h0, X', hL, e1, e2, ⟨hv, hh⟩, st⟩ := hr T hT' X
  cases hv
  have hL0 : L = [] := List.eq_nil_iff_forall_not_mem.mpr (fun q hq => hL q hq)
  subst hL0
  rw [List.append_nil] at X'
  obtain ⟨t2, a1, b1⟩ := kk T' (by rw [e1, hh, h0]) X'
  exact ⟨t2, st t2 a1, b1⟩
/-- the entry of a static pure method -/
theorem en_si {f : Option Int32} (hy : plainName y.cls = true) (hlen : (lg_sl As).length ≤ n) (body : ∀ (z : Int32), f = some z → ∀ (p : Program) (e : Env) (s : State) (m : MethodId) (args : Array Value) (below : List Frame) (meth : Method) (c : Code) (ls : Array Slot), p.tables.exec = Jvm.exec → c.code = b → c.maxLocals = n → s.vm.findClass y.cls = some m.cls → (∀ w ∈ WT, w.before args s = true) → meth.sig.returnType = some ty → meth.locks = false → lv_has ls n (lv_args 0 As) → W p l e rm s m args below meth c s.heap [] 0 0 (MQ below (fun _ st oc t => oc = .returned (some (.int z)) ∧ t.heap = st.heap) args s 0 0 (fun _ => False)) (F0 m 0 ls [])) : MSi l y b n ty rm As f := by
  intro z hz
  refine Met.ofW (cc := b) (maxL := n) (ret := some ty) hy rfl ?_
  intro p e s m args below meth c s₁ B hml hv
  obtain ⟨rfl, -⟩ := hv
  have hts := atoms_spec (ws := Cond.code y b n (some ty) :: WT) B.pre
  rw [lg_entry_eq]
  exact body z hz p e s m _ below meth c _ B.exec B.bytes hml (findClass_of_methodNamed B.named) (fun w hw => hts w (List.mem_cons_of_mem _ hw)) B.returns B.notSynchronized (lv_entry As hlen)
theorem en_sl {f : Option Int64} (hy : plainName y.cls = true) (hlen : (lg_sl As).length ≤ n) (body : ∀ (z : Int64), f = some z → ∀ (p : Program) (e : Env) (s : State) (m : MethodId) (args : Array Value) (below : List Frame) (meth : Method) (c : Code) (ls : Array Slot), p.tables.exec = Jvm.exec → c.code = b → c.maxLocals = n → s.vm.findClass y.cls = some m.cls → (∀ w ∈ WT, w.before args s = true) → meth.sig.returnType = some .long → meth.locks = false → lv_has ls n (lv_args 0 As) → W p l e rm s m args below meth c s.heap [] 0 0 (MQ below (fun _ st oc t => oc = .returned (some (.long z)) ∧ t.heap = st.heap) args s 0 0 (fun _ => False)) (F0 m 0 ls [])) : MSl l y b n rm As f := by
  intro z hz
  refine Met.ofW (cc := b) (maxL := n) (ret := some .long) hy rfl ?_
  intro p e s m args below meth c s₁ B hml hv
  obtain ⟨rfl, -⟩ := hv
  have hts := atoms_spec (ws := Cond.code y b n (some .long) :: WT) B.pre
  rw [lg_entry_eq]
  exact body z hz p e s m _ below meth c _ B.exec B.bytes hml (findClass_of_methodNamed B.named) (fun w hw => hts w (List.mem_cons_of_mem _ hw)) B.returns B.notSynchronized (lv_entry As hlen)
theorem rt_si {z : Int32} (hx : p.tables.exec = Jvm.exec) (hb : c.code = cc) (hr : meth.sig.returnType = some ty) (hlk : meth.locks = false) (hn : narrow ty (.int z) = .int z) (hdg : decode cc pc = .ok (.ireturn, 1)) : W p l e Rm s m args below meth c s.heap [] 0 0 (MQ below (fun _ st oc t => oc = .returned (some (.int z)) ∧ t.heap = st.heap) args s 0 0 (fun _ => False)) (F0 m pc ls [.int z]) :=
  W.zret hx hb hr hn (fun t ht _ => ⟨rfl, ht⟩) (fun q hq => by cases hq) hdg hlk
theorem rt_sl {z : Int64} (hx : p.tables.exec = Jvm.exec) (hb : c.code = cc) (hr : meth.sig.returnType = some .long) (hlk : meth.locks = false) (hdg : decode cc pc = .ok (.lreturn, 1)) : W p l e Rm s m args below meth c s.heap [] 0 0 (MQ below (fun _ st oc t => oc = .returned (some (.long z)) ∧ t.heap = st.heap) args s 0 0 (fun _ => False)) (F0 m pc ls [.long z]) :=
  W.lret hx hb hr (fun t ht _ => ⟨rfl, ht⟩) (fun q hq => by cases hq) hdg hlk
end MF
