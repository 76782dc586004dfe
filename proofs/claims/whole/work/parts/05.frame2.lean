/-! ===== entries, ends and calls of the model's methods ===== -/
theorem op_if {α : Type} {c : Prop} [Decidable c] {x : Option α} {z : α} (h : (if c then x else none) = some z) : c ∧ x = some z := by
  by_cases hc : c
  · rw [if_pos hc] at h; exact ⟨hc, h⟩
  · rw [if_neg hc] at h; cases h
theorem op_bind {α β : Type} {x : Option α} {f : α → Option β} {z : β} (h : x.bind f = some z) : ∃ y, x = some y ∧ f y = some z := by
  cases x with
  | none => cases h
  | some y => exact ⟨y, rfl, h⟩
theorem op_t {α : Type} {c : Prop} [Decidable c] {x y z : α} (hc : c) (h : (if c then x else y) = z) : x = z := by rw [if_pos hc] at h; exact h
theorem op_f {α : Type} {c : Prop} [Decidable c] {x y z : α} (hc : ¬ c) (h : (if c then x else y) = z) : y = z := by rw [if_neg hc] at h; exact h
theorem op_i1 {α : Type} {a x : α} (h : some a = some x) : a = x := Option.some.inj h
theorem op_i2 {α0 α1 : Type} {a0 x0 : α0} {a1 x1 : α1} (h : some (a0, a1) = some (x0, x1)) : a0 = x0 ∧ a1 = x1 := by cases h; exact ⟨rfl, rfl⟩
theorem op_i3 {α0 α1 α2 : Type} {a0 x0 : α0} {a1 x1 : α1} {a2 x2 : α2} (h : some (a0, a1, a2) = some (x0, x1, x2)) : a0 = x0 ∧ a1 = x1 ∧ a2 = x2 := by cases h; exact ⟨rfl, rfl, rfl⟩
theorem op_i4 {α0 α1 α2 α3 : Type} {a0 x0 : α0} {a1 x1 : α1} {a2 x2 : α2} {a3 x3 : α3} (h : some (a0, a1, a2, a3) = some (x0, x1, x2, x3)) : a0 = x0 ∧ a1 = x1 ∧ a2 = x2 ∧ a3 = x3 := by cases h; exact ⟨rfl, rfl, rfl, rfl⟩
theorem op_i5 {α0 α1 α2 α3 α4 : Type} {a0 x0 : α0} {a1 x1 : α1} {a2 x2 : α2} {a3 x3 : α3} {a4 x4 : α4} (h : some (a0, a1, a2, a3, a4) = some (x0, x1, x2, x3, x4)) : a0 = x0 ∧ a1 = x1 ∧ a2 = x2 ∧ a3 = x3 ∧ a4 = x4 := by cases h; exact ⟨rfl, rfl, rfl, rfl, rfl⟩
theorem op_i6 {α0 α1 α2 α3 α4 α5 : Type} {a0 x0 : α0} {a1 x1 : α1} {a2 x2 : α2} {a3 x3 : α3} {a4 x4 : α4} {a5 x5 : α5} (h : some (a0, a1, a2, a3, a4, a5) = some (x0, x1, x2, x3, x4, x5)) : a0 = x0 ∧ a1 = x1 ∧ a2 = x2 ∧ a3 = x3 ∧ a4 = x4 ∧ a5 = x5 := by cases h; exact ⟨rfl, rfl, rfl, rfl, rfl, rfl⟩
theorem op_i7 {α0 α1 α2 α3 α4 α5 α6 : Type} {a0 x0 : α0} {a1 x1 : α1} {a2 x2 : α2} {a3 x3 : α3} {a4 x4 : α4} {a5 x5 : α5} {a6 x6 : α6} (h : some (a0, a1, a2, a3, a4, a5, a6) = some (x0, x1, x2, x3, x4, x5, x6)) : a0 = x0 ∧ a1 = x1 ∧ a2 = x2 ∧ a3 = x3 ∧ a4 = x4 ∧ a5 = x5 ∧ a6 = x6 := by cases h; exact ⟨rfl, rfl, rfl, rfl, rfl, rfl, rfl⟩
theorem op_i8 {α0 α1 α2 α3 α4 α5 α6 α7 : Type} {a0 x0 : α0} {a1 x1 : α1} {a2 x2 : α2} {a3 x3 : α3} {a4 x4 : α4} {a5 x5 : α5} {a6 x6 : α6} {a7 x7 : α7} (h : some (a0, a1, a2, a3, a4, a5, a6, a7) = some (x0, x1, x2, x3, x4, x5, x6, x7)) : a0 = x0 ∧ a1 = x1 ∧ a2 = x2 ∧ a3 = x3 ∧ a4 = x4 ∧ a5 = x5 ∧ a6 = x6 ∧ a7 = x7 := by cases h; exact ⟨rfl, rfl, rfl, rfl, rfl, rfl, rfl, rfl⟩
abbrev mQi (dC : Nat → ClassId) (dI : Nat → Nat → Nat) (ad : Nat → Nat) (cI cZ : ClassId) (A : Nat → Prop) (below : List Frame) (args : Array Value) (s : State) (z : Int32 × MU) : State → Prop := MQ below (va_Qi (fun r (u : MU) => (r, u) = z) (mPost dC dI ad cI cZ A) A) args s 0 0 A
abbrev mQv (dC : Nat → ClassId) (dI : Nat → Nat → Nat) (ad : Nat → Nat) (cI cZ : ClassId) (A : Nat → Prop) (below : List Frame) (args : Array Value) (s : State) (z : MU) : State → Prop := MQ below (va_Qv (fun (u : MU) => u = z) (mPost dC dI ad cI cZ A) A) args s 0 0 A
abbrev mQl (dC : Nat → ClassId) (dI : Nat → Nat → Nat) (ad : Nat → Nat) (cI cZ : ClassId) (A : Nat → Prop) (below : List Frame) (args : Array Value) (s : State) (z : Int64 × MU) : State → Prop := MQ below (va_Ql (fun r (u : MU) => (r, u) = z) (mPost dC dI ad cI cZ A) A) args s 0 0 A
/-- the locals at a method's entry -/
theorem en_ls (m : MethodId) (vs : List Value) {n : Nat} (h : (lg_sl vs).length ≤ n) : ∃ ls : Array Slot, entryFrame m vs.toArray n = F0 m 0 ls [] ∧ lv_has ls n (lv_args 0 vs) := ⟨_, lg_entry_eq m vs n, lv_entry vs h⟩
section ME
variable {p : Program} {l : Launch} {e : Env} {Rm rm : Room} {s : State} {m : MethodId} {args : Array Value} {below : List Frame} {meth : Method} {c : Code} {H : Heap} {locs : List Loc} {cells slots : Nat} {Q : State → Prop} {cc b : ByteArray} {n nL pc ix na : Nat} {ls : Array Slot} {rest st0 : List Value} {As : (Nat → Nat) → (Nat → Nat) → List Value} {adK adV : Nat → Nat} {dC : Nat → ClassId} {dI : Nat → Nat → Nat} {ad : Nat → Nat} {cI cZ : ClassId} {I I' : Nat → Int32} {R R' : Nat → Nat → Int32} {A : Nat → Prop} {H0 : Heap} {y : MethodName} {ty : FieldType} {u : MU}
theorem en_mi {f : Option (Int32 × MU)} (hy : plainName y.cls = true) (hyc : y.cls = R_Md) (hlen : ∀ ad adK : Nat → Nat, (lg_sl (.ref (ad 0) :: As ad adK)).length ≤ n) (body : ∀ (z : Int32 × MU), f = some z → ∀ (p : Program) (e : Env) (s : State) (m : MethodId) (args : Array Value) (below : List Frame) (meth : Method) (c : Code) (dC : Nat → ClassId) (dI : Nat → Nat → Nat) (ad : Nat → Nat) (cI cZ : ClassId) (A : Nat → Prop) (adK adV : Nat → Nat) (ls : Array Slot), mC p s m args c b n dC dI cI cZ A adK adV → (∀ q, s.heap.size ≤ q → A q) → mH A s.heap dC dI ad cI cZ I R s.heap [] → meth.sig.returnType = some ty → meth.locks = false → lv_has ls n (lv_args 0 (.ref (ad 0) :: As ad adK)) → W p l e rm s m args below meth c s.heap [] 0 0 (mQi dC dI ad cI cZ A below args s z) (F0 m 0 ls [])) : MMi l y b n ty rm As I R f := by
  intro z hz dC dI ad cI cZ adK adV sz
  refine Met.ofW (cc := b) (maxL := n) (ret := some ty) hy rfl ?_
  intro p e s m args below meth c s₁ B hml hv
  obtain ⟨rfl, hsz, hP, hK, hD0, hTS, hTR⟩ := hv
  have hts := atoms_spec (ws := Cond.code y b n (some ty) :: WT) B.pre
  subst hsz
  obtain ⟨ls, hE, hl⟩ := en_ls m (.ref (ad 0) :: As ad adK) (hlen ad adK)
  rw [hE]
  exact body z hz p e s m _ below meth c dC dI ad cI cZ (va_A (mX ad cI cZ I R) s.heap.size) adK adV ls ⟨B.exec, B.bytes, hml, hyc ▸ findClass_of_methodNamed B.named, fun w hw => hts w (List.mem_cons_of_mem _ hw), hK, hTS, hTR⟩ (fun q h => Or.inr h) ⟨hP, hD0.self, va_S.rf⟩ B.returns B.notSynchronized hl
theorem en_mv {f : Option MU} (hy : plainName y.cls = true) (hyc : y.cls = R_Md) (hlen : ∀ ad adK : Nat → Nat, (lg_sl (.ref (ad 0) :: As ad adK)).length ≤ n) (body : ∀ (z : MU), f = some z → ∀ (p : Program) (e : Env) (s : State) (m : MethodId) (args : Array Value) (below : List Frame) (meth : Method) (c : Code) (dC : Nat → ClassId) (dI : Nat → Nat → Nat) (ad : Nat → Nat) (cI cZ : ClassId) (A : Nat → Prop) (adK adV : Nat → Nat) (ls : Array Slot), mC p s m args c b n dC dI cI cZ A adK adV → (∀ q, s.heap.size ≤ q → A q) → mH A s.heap dC dI ad cI cZ I R s.heap [] → meth.sig.returnType = none → meth.locks = false → lv_has ls n (lv_args 0 (.ref (ad 0) :: As ad adK)) → W p l e rm s m args below meth c s.heap [] 0 0 (mQv dC dI ad cI cZ A below args s z) (F0 m 0 ls [])) : MMv l y b n rm As I R f := by
  intro z hz dC dI ad cI cZ adK adV sz
  refine Met.ofW (cc := b) (maxL := n) (ret := none) hy rfl ?_
  intro p e s m args below meth c s₁ B hml hv
  obtain ⟨rfl, hsz, hP, hK, hD0, hTS, hTR⟩ := hv
  have hts := atoms_spec (ws := Cond.code y b n none :: WT) B.pre
  subst hsz
  obtain ⟨ls, hE, hl⟩ := en_ls m (.ref (ad 0) :: As ad adK) (hlen ad adK)
  rw [hE]
  exact body z hz p e s m _ below meth c dC dI ad cI cZ (va_A (mX ad cI cZ I R) s.heap.size) adK adV ls ⟨B.exec, B.bytes, hml, hyc ▸ findClass_of_methodNamed B.named, fun w hw => hts w (List.mem_cons_of_mem _ hw), hK, hTS, hTR⟩ (fun q h => Or.inr h) ⟨hP, hD0.self, va_S.rf⟩ B.returns B.notSynchronized hl
theorem en_ml {f : Option (Int64 × MU)} (hy : plainName y.cls = true) (hyc : y.cls = R_Md) (hlen : ∀ ad adK : Nat → Nat, (lg_sl (.ref (ad 0) :: As ad adK)).length ≤ n) (body : ∀ (z : Int64 × MU), f = some z → ∀ (p : Program) (e : Env) (s : State) (m : MethodId) (args : Array Value) (below : List Frame) (meth : Method) (c : Code) (dC : Nat → ClassId) (dI : Nat → Nat → Nat) (ad : Nat → Nat) (cI cZ : ClassId) (A : Nat → Prop) (adK adV : Nat → Nat) (ls : Array Slot), mC p s m args c b n dC dI cI cZ A adK adV → (∀ q, s.heap.size ≤ q → A q) → mH A s.heap dC dI ad cI cZ I R s.heap [] → meth.sig.returnType = some .long → meth.locks = false → lv_has ls n (lv_args 0 (.ref (ad 0) :: As ad adK)) → W p l e rm s m args below meth c s.heap [] 0 0 (mQl dC dI ad cI cZ A below args s z) (F0 m 0 ls [])) : MMl l y b n rm As I R f := by
  intro z hz dC dI ad cI cZ adK adV sz
  refine Met.ofW (cc := b) (maxL := n) (ret := some .long) hy rfl ?_
  intro p e s m args below meth c s₁ B hml hv
  obtain ⟨rfl, hsz, hP, hK, hD0, hTS, hTR⟩ := hv
  have hts := atoms_spec (ws := Cond.code y b n (some .long) :: WT) B.pre
  subst hsz
  obtain ⟨ls, hE, hl⟩ := en_ls m (.ref (ad 0) :: As ad adK) (hlen ad adK)
  rw [hE]
  exact body z hz p e s m _ below meth c dC dI ad cI cZ (va_A (mX ad cI cZ I R) s.heap.size) adK adV ls ⟨B.exec, B.bytes, hml, hyc ▸ findClass_of_methodNamed B.named, fun w hw => hts w (List.mem_cons_of_mem _ hw), hK, hTS, hTR⟩ (fun q h => Or.inr h) ⟨hP, hD0.self, va_S.rf⟩ B.returns B.notSynchronized hl
theorem rt_mi {z : Int32 × MU} {x : Int32} (C : mC p s m args c cc nL dC dI cI cZ A adK adV) (h : mH A s.heap dC dI ad cI cZ I R H locs) (hr : meth.sig.returnType = some ty) (hlk : meth.locks = false) (hf : some (x, I, R) = some z) (hn : narrow ty (.int x) = .int x) (hdg : decode cc pc = .ok (.ireturn, 1)) : W p l e Rm s m args below meth c H locs 0 0 (mQi dC dI ad cI cZ A below args s z) (F0 m pc ls [.int x]) := by
  cases hf
  exact W.zret C.1 C.2.1 hr hn (fun t ht hW => ⟨⟨x, (I, R), rfl, rfl, by rw [ht]; exact h.1, va_K.moved hW.alike C.2.2.2.2.2.1, h.2.1⟩, h.2.2.F ht⟩) h.2.2.2.2 hdg hlk
theorem rt_ml {z : Int64 × MU} {x : Int64} (C : mC p s m args c cc nL dC dI cI cZ A adK adV) (h : mH A s.heap dC dI ad cI cZ I R H locs) (hr : meth.sig.returnType = some .long) (hlk : meth.locks = false) (hf : some (x, I, R) = some z) (hdg : decode cc pc = .ok (.lreturn, 1)) : W p l e Rm s m args below meth c H locs 0 0 (mQl dC dI ad cI cZ A below args s z) (F0 m pc ls [.long x]) := by
  cases hf
  exact W.lret C.1 C.2.1 hr (fun t ht hW => ⟨⟨x, (I, R), rfl, rfl, by rw [ht]; exact h.1, va_K.moved hW.alike C.2.2.2.2.2.1, h.2.1⟩, h.2.2.F ht⟩) h.2.2.2.2 hdg hlk
theorem rt_mv {z : MU} (C : mC p s m args c cc nL dC dI cI cZ A adK adV) (h : mH A s.heap dC dI ad cI cZ I R H locs) (hr : meth.sig.returnType = none) (hlk : meth.locks = false) (hf : some (I, R) = some z) (hdg : decode cc pc = .ok (.return_, 1)) : W p l e Rm s m args below meth c H locs 0 0 (mQv dC dI ad cI cZ A below args s z) (F0 m pc ls []) := by
  cases hf
  exact W.vret C.1 C.2.1 hr (fun t ht hW => ⟨⟨(I, R), rfl, rfl, by rw [ht]; exact h.1, va_K.moved hW.alike C.2.2.2.2.2.1, h.2.1⟩, h.2.2.F ht⟩) h.2.2.2.2 hdg hlk
theorem mH_free (h : mH A H0 dC dI ad cI cZ I R H locs) (hA : ∀ q, H0.size ≤ q → A q) : ∀ q, va_A (mX ad cI cZ I R) H.size q → A q := fun q hq => by
  rcases hq with ⟨k, e, hk⟩ | hq
  · exact h.2.1.2 k _ hk
  · exact hA q (Nat.le_trans h.2.2.1 hq)
/-- a call of one of the model's instance methods by another -/
theorem kc_i {f : Option (Int32 × MU)} {r : Int32} (C : mC p s m args c cc nL dC dI cI cZ A adK adV) (h : mH A s.heap dC dI ad cI cZ I R H locs) (hA : ∀ q, s.heap.size ≤ q → A q) (hM : MMi l y b n ty rm As I R f) (hf : f = some (r, I', R'))
    (cb : CallB Rm s args R_Md ix y b n (some ty) (Cond.code y b n (some ty) :: WT) rm 0 0 na) (im : Cond.instanceMethod y ∈ WT) (se : Cond.selects R_Md y y ∈ WT)
    (hn : (As ad adK).length = na) (hsz : ls.size = nL) (hst : st0 = (As ad adK).reverse ++ .ref (ad 0) :: rest) (hW : (rest.map fun v => v.category).sum ≤ 8) (hdg : decode cc pc = .ok (.invokevirtual ix, 3)) (hcs : cells ≤ Rm.cells ∧ slots ≤ Rm.slots)
    (kk : ∀ (H1 : Heap) (locs1 : List Loc), mH A s.heap dC dI ad cI cZ I' R' H1 locs1 → W p l e Rm s m args below meth c H1 locs1 cells slots Q (F0 m (pc + 3) ls (.int r :: rest))) : W p l e Rm s m args below meth c H locs cells slots Q (F0 m pc ls st0) := by
  refine va_calli (va_runV (C := R_Md) (As := As ad adK) (rest := rest) ⟨C.1, C.2.1, C.2.2.1, C.2.2.2.1, C.2.2.2.2.1⟩ (hM _ hf dC dI ad cI cZ adK adV H.size) ⟨cb, C.2.2.2.2.1 _ im, C.2.2.2.2.1 _ se⟩ ⟨fun a U g mk q => ⟨q.1, q.2.1, q.2.2.1, va_K.moved (u := U) (U := U.calling g mk a) (Vm.Alike.refl U.vm) q.2.2.2.1, q.2.2.2.2.1, q.2.2.2.2.2.1.moved (u := U) (U := U.calling g mk a) (Vm.Alike.refl U.vm), q.2.2.2.2.2.2.same rfl⟩, va_recv C.2.2.2.2.2.1 h.1 (ci := 12) (q0 := 0) rfl rfl, fun U hU hW => ⟨rfl, by rw [hU], by rw [hU]; exact h.1, va_K.moved hW.alike C.2.2.2.2.2.1, h.2.1.weaken (fun _ _ _ _ => trivial), by rw [hU]; exact ((C.2.2.2.2.2.2.1.kept h.2.2.2.1).moved hW.alike).narrow (mH_free h hA), C.2.2.2.2.2.2.2.warm hW⟩⟩ rfl hn hsz hst (lv_room hW) hdg hcs) h.2.2 (fun q _ hq => mH_free h hA q hq) (mH_free h hA) (fun r1 u1 t H1 locs1 ht hvm hw hB hz1 hk1 hS => ?_)
  cases hw
  exact kk H1 locs1 ⟨by rw [← ht]; exact hB.1, hB.2.2.weaken (fun _ q _ hq => mH_free h hA _ hq), hS⟩
theorem kc_l {f : Option (Int64 × MU)} {r : Int64} (C : mC p s m args c cc nL dC dI cI cZ A adK adV) (h : mH A s.heap dC dI ad cI cZ I R H locs) (hA : ∀ q, s.heap.size ≤ q → A q) (hM : MMl l y b n rm As I R f) (hf : f = some (r, I', R'))
    (cb : CallB Rm s args R_Md ix y b n (some .long) (Cond.code y b n (some .long) :: WT) rm 0 0 na) (im : Cond.instanceMethod y ∈ WT) (se : Cond.selects R_Md y y ∈ WT)
    (hn : (As ad adK).length = na) (hsz : ls.size = nL) (hst : st0 = (As ad adK).reverse ++ .ref (ad 0) :: rest) (hW : (rest.map fun v => v.category).sum ≤ 8) (hdg : decode cc pc = .ok (.invokevirtual ix, 3)) (hcs : cells ≤ Rm.cells ∧ slots ≤ Rm.slots)
    (kk : ∀ (H1 : Heap) (locs1 : List Loc), mH A s.heap dC dI ad cI cZ I' R' H1 locs1 → W p l e Rm s m args below meth c H1 locs1 cells slots Q (F0 m (pc + 3) ls (.long r :: rest))) : W p l e Rm s m args below meth c H locs cells slots Q (F0 m pc ls st0) := by
  refine va_calll (va_runV (C := R_Md) (As := As ad adK) (rest := rest) ⟨C.1, C.2.1, C.2.2.1, C.2.2.2.1, C.2.2.2.2.1⟩ (hM _ hf dC dI ad cI cZ adK adV H.size) ⟨cb, C.2.2.2.2.1 _ im, C.2.2.2.2.1 _ se⟩ ⟨fun a U g mk q => ⟨q.1, q.2.1, q.2.2.1, va_K.moved (u := U) (U := U.calling g mk a) (Vm.Alike.refl U.vm) q.2.2.2.1, q.2.2.2.2.1, q.2.2.2.2.2.1.moved (u := U) (U := U.calling g mk a) (Vm.Alike.refl U.vm), q.2.2.2.2.2.2.same rfl⟩, va_recv C.2.2.2.2.2.1 h.1 (ci := 12) (q0 := 0) rfl rfl, fun U hU hW => ⟨rfl, by rw [hU], by rw [hU]; exact h.1, va_K.moved hW.alike C.2.2.2.2.2.1, h.2.1.weaken (fun _ _ _ _ => trivial), by rw [hU]; exact ((C.2.2.2.2.2.2.1.kept h.2.2.2.1).moved hW.alike).narrow (mH_free h hA), C.2.2.2.2.2.2.2.warm hW⟩⟩ rfl hn hsz hst (lv_room hW) hdg hcs) h.2.2 (fun q _ hq => mH_free h hA q hq) (mH_free h hA) (fun r1 u1 t H1 locs1 ht hvm hw hB hz1 hk1 hS => ?_)
  cases hw
  exact kk H1 locs1 ⟨by rw [← ht]; exact hB.1, hB.2.2.weaken (fun _ q _ hq => mH_free h hA _ hq), hS⟩
theorem kc_v {f : Option MU} (C : mC p s m args c cc nL dC dI cI cZ A adK adV) (h : mH A s.heap dC dI ad cI cZ I R H locs) (hA : ∀ q, s.heap.size ≤ q → A q) (hM : MMv l y b n rm As I R f) (hf : f = some (I', R'))
    (cb : CallB Rm s args R_Md ix y b n none (Cond.code y b n none :: WT) rm 0 0 na) (im : Cond.instanceMethod y ∈ WT) (se : Cond.selects R_Md y y ∈ WT)
    (hn : (As ad adK).length = na) (hsz : ls.size = nL) (hst : st0 = (As ad adK).reverse ++ .ref (ad 0) :: rest) (hW : (rest.map fun v => v.category).sum ≤ 8) (hdg : decode cc pc = .ok (.invokevirtual ix, 3)) (hcs : cells ≤ Rm.cells ∧ slots ≤ Rm.slots)
    (kk : ∀ (H1 : Heap) (locs1 : List Loc), mH A s.heap dC dI ad cI cZ I' R' H1 locs1 → W p l e Rm s m args below meth c H1 locs1 cells slots Q (F0 m (pc + 3) ls rest)) : W p l e Rm s m args below meth c H locs cells slots Q (F0 m pc ls st0) := by
  refine va_callv (va_runV (C := R_Md) (As := As ad adK) (rest := rest) ⟨C.1, C.2.1, C.2.2.1, C.2.2.2.1, C.2.2.2.2.1⟩ (hM _ hf dC dI ad cI cZ adK adV H.size) ⟨cb, C.2.2.2.2.1 _ im, C.2.2.2.2.1 _ se⟩ ⟨fun a U g mk q => ⟨q.1, q.2.1, q.2.2.1, va_K.moved (u := U) (U := U.calling g mk a) (Vm.Alike.refl U.vm) q.2.2.2.1, q.2.2.2.2.1, q.2.2.2.2.2.1.moved (u := U) (U := U.calling g mk a) (Vm.Alike.refl U.vm), q.2.2.2.2.2.2.same rfl⟩, va_recv C.2.2.2.2.2.1 h.1 (ci := 12) (q0 := 0) rfl rfl, fun U hU hW => ⟨rfl, by rw [hU], by rw [hU]; exact h.1, va_K.moved hW.alike C.2.2.2.2.2.1, h.2.1.weaken (fun _ _ _ _ => trivial), by rw [hU]; exact ((C.2.2.2.2.2.2.1.kept h.2.2.2.1).moved hW.alike).narrow (mH_free h hA), C.2.2.2.2.2.2.2.warm hW⟩⟩ rfl hn hsz hst (lv_room hW) hdg hcs) h.2.2 (fun q _ hq => mH_free h hA q hq) (mH_free h hA) (fun u1 t H1 locs1 ht hvm hw hB hz1 hk1 hS => ?_)
  cases hw
  exact kk H1 locs1 ⟨by rw [← ht]; exact hB.1, hB.2.2.weaken (fun _ q _ hq => mH_free h hA _ hq), hS⟩
theorem kc_r {f : Option Int32} {r : Int32} (C : mC p s m args c cc nL dC dI cI cZ A adK adV) (h : mH A s.heap dC dI ad cI cZ I R H locs) (hA : ∀ q, s.heap.size ≤ q → A q) (hM : MMi l y b n ty rm As I R (f.map fun r => (r, I, R))) (hf : f = some r)
    (cb : CallB Rm s args R_Md ix y b n (some ty) (Cond.code y b n (some ty) :: WT) rm 0 0 na) (im : Cond.instanceMethod y ∈ WT) (se : Cond.selects R_Md y y ∈ WT)
    (hn : (As ad adK).length = na) (hsz : ls.size = nL) (hst : st0 = (As ad adK).reverse ++ .ref (ad 0) :: rest) (hW : (rest.map fun v => v.category).sum ≤ 8) (hdg : decode cc pc = .ok (.invokevirtual ix, 3)) (hcs : cells ≤ Rm.cells ∧ slots ≤ Rm.slots)
    (kk : ∀ (H1 : Heap) (locs1 : List Loc), mH A s.heap dC dI ad cI cZ I R H1 locs1 → W p l e Rm s m args below meth c H1 locs1 cells slots Q (F0 m (pc + 3) ls (.int r :: rest))) : W p l e Rm s m args below meth c H locs cells slots Q (F0 m pc ls st0) :=
  kc_i C h hA hM (by rw [hf]; rfl) cb im se hn hsz hst hW hdg hcs kk
theorem op_map {α β : Type} {x : Option α} {g : α → β} {z : β} (h : x.map g = some z) : ∃ y, x = some y ∧ z = g y := by
  cases x with
  | none => cases h
  | some y => exact ⟨y, rfl, (Option.some.inj h).symm⟩
theorem rt_mr {r x : Int32} (C : mC p s m args c cc nL dC dI cI cZ A adK adV) (h : mH A s.heap dC dI ad cI cZ I R H locs) (hr : meth.sig.returnType = some ty) (hlk : meth.locks = false) (hf : some x = some r) (hn : narrow ty (.int x) = .int x) (hdg : decode cc pc = .ok (.ireturn, 1)) : W p l e Rm s m args below meth c H locs 0 0 (mQi dC dI ad cI cZ A below args s (r, I, R)) (F0 m pc ls [.int x]) :=
  rt_mi C h hr hlk (by cases hf; rfl) hn hdg
end ME
theorem tn_ne {x y : Int32} {v : Int} (hv : y.toInt = v) (h : ¬ x = y) : ¬ x.toInt = v := fun e => h (Int32.toInt_inj.mp (e.trans hv.symm))
