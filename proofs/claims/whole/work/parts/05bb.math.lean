theorem cdL_max : Cond.code Lib.Math.max.name Lib.Math.max.code 2 (some .int) ∈ WT := wt_of (wt_1 (List.mem_of_getElem? (i := 47) (by decide +kernel))) (by decide +kernel)
theorem smL_max : Cond.static Lib.Math.max.name ∈ WT := wt_of (wt_1 (List.mem_of_getElem? (i := 46) (by decide +kernel))) (by decide +kernel)
theorem cdL_min : Cond.code Lib.Math.min.name Lib.Math.min.code 2 (some .int) ∈ WT := wt_of (wt_1 (List.mem_of_getElem? (i := 44) (by decide +kernel))) (by decide +kernel)
theorem smL_min : Cond.static Lib.Math.min.name ∈ WT := wt_of (wt_1 (List.mem_of_getElem? (i := 43) (by decide +kernel))) (by decide +kernel)
abbrev jmax (x y : Int32) : Int32 := if x < y then y else x
abbrev jmin (x y : Int32) : Int32 := if y < x then y else x
section MX
variable {p : Program} {l : Launch} {e : Env} {Rm : Room} {s : State} {m : MethodId} {args : Array Value} {below : List Frame} {meth : Method} {c : Code} {H : Heap} {locs : List Loc} {cells slots : Nat} {Q : State → Prop} {cc : ByteArray} {nL pc ix : Nat} {ls : Array Slot} {rest : List Value}
theorem k_jmax {own : String} {x y : Int32} (hx : p.tables.exec = Jvm.exec) (hb : c.code = cc) (hml : c.maxLocals = nL) (hown : s.vm.findClass own = some m.cls) (hsz : ls.size = nL) (ml : (Cond.methodLink own ix Lib.Math.max.name).before args s = true) (hT : ∀ w ∈ WT, w.before args s = true) (hdg : decode cc pc = .ok (.invokestatic ix, 3)) (hfr : 1 ≤ Rm.frames) (hlo : (rest.map fun v => v.category).sum ≤ 8) (hlo2 : 21 ≤ Rm.locals) (hcs : cells ≤ Rm.cells ∧ slots ≤ Rm.slots)
    (kk : W p l e Rm s m args below meth c H locs cells slots Q (F0 m (pc + 3) ls (.int (jmax x y) :: rest))) : W p l e Rm s m args below meth c H locs cells slots Q (F0 m pc ls (.int y :: .int x :: rest)) :=
  va_mmax hx hb (hml.trans hsz.symm) hown ml (hT _ smL_max) (hT _ ini_Math) (hT _ cdL_max) hfr (by omega) hcs.1 hcs.2 hdg kk
theorem k_jmin {own : String} {x y : Int32} (hx : p.tables.exec = Jvm.exec) (hb : c.code = cc) (hml : c.maxLocals = nL) (hown : s.vm.findClass own = some m.cls) (hsz : ls.size = nL) (ml : (Cond.methodLink own ix Lib.Math.min.name).before args s = true) (hT : ∀ w ∈ WT, w.before args s = true) (hdg : decode cc pc = .ok (.invokestatic ix, 3)) (hfr : 1 ≤ Rm.frames) (hlo : (rest.map fun v => v.category).sum ≤ 8) (hlo2 : 21 ≤ Rm.locals) (hcs : cells ≤ Rm.cells ∧ slots ≤ Rm.slots)
    (kk : W p l e Rm s m args below meth c H locs cells slots Q (F0 m (pc + 3) ls (.int (jmin x y) :: rest))) : W p l e Rm s m args below meth c H locs cells slots Q (F0 m pc ls (.int y :: .int x :: rest)) :=
  va_mmin hx hb (hml.trans hsz.symm) hown ml (hT _ smL_min) (hT _ ini_Math) (hT _ cdL_min) hfr (by omega) hcs.1 hcs.2 hdg kk
end MX
theorem tn_ne2 {x y : Int32} {v : Int} (hv : y.toInt = v) (h : ¬ x = y) : ¬ v = x.toInt := fun e => h (Int32.toInt_inj.mp (e.symm.trans hv.symm))
