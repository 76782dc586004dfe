theorem cdO : Cond.code Lib.objectInit ⟨#[0xb1]⟩ 1 none ∈ WT := wt_of (wt_1 (List.mem_of_getElem? (i := 29) (by decide +kernel))) (by decide +kernel)
def yX (ci a : Nat) (d : Nat → Int32) : va_W := [(a, .inr (ci, wl d))]
def wv (v1 v2 v3 v4 v5 : Int32) : Nat → Int32 := fun k => if k = 0 then v1 else if k = 1 then v2 else if k = 2 then v3 else if k = 3 then v4 else v5
abbrev yP (dC : Nat → ClassId) (dI : Nat → Nat → Nat) (ci a : Nat) (d : Nat → Int32) (sz : Nat) : State → Prop := fun U => U.heap.size = sz ∧ va_P (dC, dI) CL (yX ci a d) U.heap ∧ va_K (dC, dI) CL [] U ∧ va_D (fun _ => True) (yX ci a d)
abbrev yB (dC : Nat → ClassId) (dI : Nat → Nat → Nat) (ci a : Nat) (A : Nat → Prop) : (Nat → Int32) → State → Prop := fun u t => va_P (dC, dI) CL (yX ci a u) t.heap ∧ va_K (dC, dI) CL [] t ∧ va_D A (yX ci a u)
theorem yp_0 {p : Program} {l : Launch} {e : Env} {Rm : Room} {s : State} {m : MethodId} {args : Array Value} {below : List Frame} {meth : Method} {c : Code} {H : Heap} {locs : List Loc} {cells slots : Nat} {Q : State → Prop} {cc : ByteArray} {pc ix a ci : Nat} {ls : Array Slot} {rest : List Value} {dC : Nat → ClassId} {dI : Nat → Nat → Nat} {d : Nat → Int32} {A : Nat → Prop} {H0 : Heap} {x : Int32} (hx : p.tables.exec = Jvm.exec) (hb : c.code = cc) (hT : ∀ w ∈ WT, w.before args s = true) (hown : s.vm.findClass "LanternBridge$Walker" = some m.cls) (hin : meth.name = "<init>") (hK : va_K (dC, dI) CL [] s) (hci : ci ∈ wcl) (hP : va_P (dC, dI) CL (yX ci a d) H) (hD : va_D A (yX ci a d)) (hS : va_S A H0 H locs) (fl : Cond.fieldLink "LanternBridge$Walker" ix "LanternBridge$Walker" "kind" "I" ∈ WT) (hdg : decode cc pc = .ok (.putfield ix, 3)) (kk : ∀ (H1 : Heap) (locs1 : List Loc), va_P (dC, dI) CL (yX ci a (upd d 0 x)) H1 → va_D A (yX ci a (upd d 0 x)) → va_S A H0 H1 locs1 → W p l e Rm s m args below meth c H1 locs1 cells slots Q (F0 m (pc + 3) ls rest)) : W p l e Rm s m args below meth c H locs cells slots Q (F0 m pc ls (.int x :: .ref a :: rest)) := by
  revert hP hD kk
  refine w_cases (P := fun ci => va_P (dC, dI) CL (yX ci a d) H → va_D A (yX ci a d) → (∀ (H1 : Heap) (locs1 : List Loc), va_P (dC, dI) CL (yX ci a (upd d 0 x)) H1 → va_D A (yX ci a (upd d 0 x)) → va_S A H0 H1 locs1 → W p l e Rm s m args below meth c H1 locs1 cells slots Q (F0 m (pc + 3) ls rest)) → _) ?_ ?_ ?_ ?_ ?_ ?_ ?_ hci
  · intro hP hD kk; exact va_putF (D := (dC, dI)) (ci := 0) (v := .int x) (ty := .int) (C := R_Ca) (T := F_Ca) (N := 5) hx hb hT uw_Ca ty_Ca ok_Ca nm_Ca hown hK hP hD hS 0 rfl rfl 0 (by decide) (hT _ fl) (fun _ h9 => h9) rfl hin rfl (by decide +kernel) rfl rfl (Nat.le_of_ble_eq_true rfl) hdg kk
  · intro hP hD kk; exact va_putF (D := (dC, dI)) (ci := 2) (v := .int x) (ty := .int) (C := R_La) (T := F_La) (N := 5) hx hb hT uw_La ty_La ok_La nm_La hown hK hP hD hS 0 rfl rfl 0 (by decide) (hT _ fl) (fun _ h9 => h9) rfl hin rfl (by decide +kernel) rfl rfl (Nat.le_of_ble_eq_true rfl) hdg kk
  · intro hP hD kk; exact va_putF (D := (dC, dI)) (ci := 3) (v := .int x) (ty := .int) (C := R_Le) (T := F_Le) (N := 5) hx hb hT uw_Le ty_Le ok_Le nm_Le hown hK hP hD hS 0 rfl rfl 0 (by decide) (hT _ fl) (fun _ h9 => h9) rfl hin rfl (by decide +kernel) rfl rfl (Nat.le_of_ble_eq_true rfl) hdg kk
  · intro hP hD kk; exact va_putF (D := (dC, dI)) (ci := 5) (v := .int x) (ty := .int) (C := R_Qu) (T := F_Qu) (N := 5) hx hb hT uw_Qu ty_Qu ok_Qu nm_Qu hown hK hP hD hS 0 rfl rfl 0 (by decide) (hT _ fl) (fun _ h9 => h9) rfl hin rfl (by decide +kernel) rfl rfl (Nat.le_of_ble_eq_true rfl) hdg kk
  · intro hP hD kk; exact va_putF (D := (dC, dI)) (ci := 8) (v := .int x) (ty := .int) (C := R_Ti) (T := F_Ti) (N := 5) hx hb hT uw_Ti ty_Ti ok_Ti nm_Ti hown hK hP hD hS 0 rfl rfl 0 (by decide) (hT _ fl) (fun _ h9 => h9) rfl hin rfl (by decide +kernel) rfl rfl (Nat.le_of_ble_eq_true rfl) hdg kk
  · intro hP hD kk; exact va_putF (D := (dC, dI)) (ci := 9) (v := .int x) (ty := .int) (C := R_Tr) (T := F_Tr) (N := 5) hx hb hT uw_Tr ty_Tr ok_Tr nm_Tr hown hK hP hD hS 0 rfl rfl 0 (by decide) (hT _ fl) (fun _ h9 => h9) rfl hin rfl (by decide +kernel) rfl rfl (Nat.le_of_ble_eq_true rfl) hdg kk
  · intro hP hD kk; exact va_putF (D := (dC, dI)) (ci := 10) (v := .int x) (ty := .int) (C := R_Wa) (T := F_Wa) (N := 5) hx hb hT uw_Wa ty_Wa ok_Wa nm_Wa hown hK hP hD hS 0 rfl rfl 0 (by decide) (hT _ fl) (fun _ h9 => h9) rfl hin rfl (by decide +kernel) rfl rfl (Nat.le_of_ble_eq_true rfl) hdg kk
theorem yp_1 {p : Program} {l : Launch} {e : Env} {Rm : Room} {s : State} {m : MethodId} {args : Array Value} {below : List Frame} {meth : Method} {c : Code} {H : Heap} {locs : List Loc} {cells slots : Nat} {Q : State → Prop} {cc : ByteArray} {pc ix a ci : Nat} {ls : Array Slot} {rest : List Value} {dC : Nat → ClassId} {dI : Nat → Nat → Nat} {d : Nat → Int32} {A : Nat → Prop} {H0 : Heap} {x : Int32} (hx : p.tables.exec = Jvm.exec) (hb : c.code = cc) (hT : ∀ w ∈ WT, w.before args s = true) (hown : s.vm.findClass "LanternBridge$Walker" = some m.cls) (hin : meth.name = "<init>") (hK : va_K (dC, dI) CL [] s) (hci : ci ∈ wcl) (hP : va_P (dC, dI) CL (yX ci a d) H) (hD : va_D A (yX ci a d)) (hS : va_S A H0 H locs) (fl : Cond.fieldLink "LanternBridge$Walker" ix "LanternBridge$Walker" "number" "I" ∈ WT) (hdg : decode cc pc = .ok (.putfield ix, 3)) (kk : ∀ (H1 : Heap) (locs1 : List Loc), va_P (dC, dI) CL (yX ci a (upd d 1 x)) H1 → va_D A (yX ci a (upd d 1 x)) → va_S A H0 H1 locs1 → W p l e Rm s m args below meth c H1 locs1 cells slots Q (F0 m (pc + 3) ls rest)) : W p l e Rm s m args below meth c H locs cells slots Q (F0 m pc ls (.int x :: .ref a :: rest)) := by
  revert hP hD kk
  refine w_cases (P := fun ci => va_P (dC, dI) CL (yX ci a d) H → va_D A (yX ci a d) → (∀ (H1 : Heap) (locs1 : List Loc), va_P (dC, dI) CL (yX ci a (upd d 1 x)) H1 → va_D A (yX ci a (upd d 1 x)) → va_S A H0 H1 locs1 → W p l e Rm s m args below meth c H1 locs1 cells slots Q (F0 m (pc + 3) ls rest)) → _) ?_ ?_ ?_ ?_ ?_ ?_ ?_ hci
  · intro hP hD kk; exact va_putF (D := (dC, dI)) (ci := 0) (v := .int x) (ty := .int) (C := R_Ca) (T := F_Ca) (N := 5) hx hb hT uw_Ca ty_Ca ok_Ca nm_Ca hown hK hP hD hS 0 rfl rfl 1 (by decide) (hT _ fl) (fun _ h9 => h9) rfl hin rfl (by decide +kernel) rfl rfl (Nat.le_of_ble_eq_true rfl) hdg kk
  · intro hP hD kk; exact va_putF (D := (dC, dI)) (ci := 2) (v := .int x) (ty := .int) (C := R_La) (T := F_La) (N := 5) hx hb hT uw_La ty_La ok_La nm_La hown hK hP hD hS 0 rfl rfl 1 (by decide) (hT _ fl) (fun _ h9 => h9) rfl hin rfl (by decide +kernel) rfl rfl (Nat.le_of_ble_eq_true rfl) hdg kk
  · intro hP hD kk; exact va_putF (D := (dC, dI)) (ci := 3) (v := .int x) (ty := .int) (C := R_Le) (T := F_Le) (N := 5) hx hb hT uw_Le ty_Le ok_Le nm_Le hown hK hP hD hS 0 rfl rfl 1 (by decide) (hT _ fl) (fun _ h9 => h9) rfl hin rfl (by decide +kernel) rfl rfl (Nat.le_of_ble_eq_true rfl) hdg kk
  · intro hP hD kk; exact va_putF (D := (dC, dI)) (ci := 5) (v := .int x) (ty := .int) (C := R_Qu) (T := F_Qu) (N := 5) hx hb hT uw_Qu ty_Qu ok_Qu nm_Qu hown hK hP hD hS 0 rfl rfl 1 (by decide) (hT _ fl) (fun _ h9 => h9) rfl hin rfl (by decide +kernel) rfl rfl (Nat.le_of_ble_eq_true rfl) hdg kk
  · intro hP hD kk; exact va_putF (D := (dC, dI)) (ci := 8) (v := .int x) (ty := .int) (C := R_Ti) (T := F_Ti) (N := 5) hx hb hT uw_Ti ty_Ti ok_Ti nm_Ti hown hK hP hD hS 0 rfl rfl 1 (by decide) (hT _ fl) (fun _ h9 => h9) rfl hin rfl (by decide +kernel) rfl rfl (Nat.le_of_ble_eq_true rfl) hdg kk
  · intro hP hD kk; exact va_putF (D := (dC, dI)) (ci := 9) (v := .int x) (ty := .int) (C := R_Tr) (T := F_Tr) (N := 5) hx hb hT uw_Tr ty_Tr ok_Tr nm_Tr hown hK hP hD hS 0 rfl rfl 1 (by decide) (hT _ fl) (fun _ h9 => h9) rfl hin rfl (by decide +kernel) rfl rfl (Nat.le_of_ble_eq_true rfl) hdg kk
  · intro hP hD kk; exact va_putF (D := (dC, dI)) (ci := 10) (v := .int x) (ty := .int) (C := R_Wa) (T := F_Wa) (N := 5) hx hb hT uw_Wa ty_Wa ok_Wa nm_Wa hown hK hP hD hS 0 rfl rfl 1 (by decide) (hT _ fl) (fun _ h9 => h9) rfl hin rfl (by decide +kernel) rfl rfl (Nat.le_of_ble_eq_true rfl) hdg kk
theorem yp_2 {p : Program} {l : Launch} {e : Env} {Rm : Room} {s : State} {m : MethodId} {args : Array Value} {below : List Frame} {meth : Method} {c : Code} {H : Heap} {locs : List Loc} {cells slots : Nat} {Q : State → Prop} {cc : ByteArray} {pc ix a ci : Nat} {ls : Array Slot} {rest : List Value} {dC : Nat → ClassId} {dI : Nat → Nat → Nat} {d : Nat → Int32} {A : Nat → Prop} {H0 : Heap} {x : Int32} (hx : p.tables.exec = Jvm.exec) (hb : c.code = cc) (hT : ∀ w ∈ WT, w.before args s = true) (hown : s.vm.findClass "LanternBridge$Walker" = some m.cls) (hin : meth.name = "<init>") (hK : va_K (dC, dI) CL [] s) (hci : ci ∈ wcl) (hP : va_P (dC, dI) CL (yX ci a d) H) (hD : va_D A (yX ci a d)) (hS : va_S A H0 H locs) (fl : Cond.fieldLink "LanternBridge$Walker" ix "LanternBridge$Walker" "v" "I" ∈ WT) (hdg : decode cc pc = .ok (.putfield ix, 3)) (kk : ∀ (H1 : Heap) (locs1 : List Loc), va_P (dC, dI) CL (yX ci a (upd d 2 x)) H1 → va_D A (yX ci a (upd d 2 x)) → va_S A H0 H1 locs1 → W p l e Rm s m args below meth c H1 locs1 cells slots Q (F0 m (pc + 3) ls rest)) : W p l e Rm s m args below meth c H locs cells slots Q (F0 m pc ls (.int x :: .ref a :: rest)) := by
  revert hP hD kk
  refine w_cases (P := fun ci => va_P (dC, dI) CL (yX ci a d) H → va_D A (yX ci a d) → (∀ (H1 : Heap) (locs1 : List Loc), va_P (dC, dI) CL (yX ci a (upd d 2 x)) H1 → va_D A (yX ci a (upd d 2 x)) → va_S A H0 H1 locs1 → W p l e Rm s m args below meth c H1 locs1 cells slots Q (F0 m (pc + 3) ls rest)) → _) ?_ ?_ ?_ ?_ ?_ ?_ ?_ hci
  · intro hP hD kk; exact va_putF (D := (dC, dI)) (ci := 0) (v := .int x) (ty := .int) (C := R_Ca) (T := F_Ca) (N := 5) hx hb hT uw_Ca ty_Ca ok_Ca nm_Ca hown hK hP hD hS 0 rfl rfl 2 (by decide) (hT _ fl) (fun _ h9 => h9) rfl hin rfl (by decide +kernel) rfl rfl (Nat.le_of_ble_eq_true rfl) hdg kk
  · intro hP hD kk; exact va_putF (D := (dC, dI)) (ci := 2) (v := .int x) (ty := .int) (C := R_La) (T := F_La) (N := 5) hx hb hT uw_La ty_La ok_La nm_La hown hK hP hD hS 0 rfl rfl 2 (by decide) (hT _ fl) (fun _ h9 => h9) rfl hin rfl (by decide +kernel) rfl rfl (Nat.le_of_ble_eq_true rfl) hdg kk
  · intro hP hD kk; exact va_putF (D := (dC, dI)) (ci := 3) (v := .int x) (ty := .int) (C := R_Le) (T := F_Le) (N := 5) hx hb hT uw_Le ty_Le ok_Le nm_Le hown hK hP hD hS 0 rfl rfl 2 (by decide) (hT _ fl) (fun _ h9 => h9) rfl hin rfl (by decide +kernel) rfl rfl (Nat.le_of_ble_eq_true rfl) hdg kk
  · intro hP hD kk; exact va_putF (D := (dC, dI)) (ci := 5) (v := .int x) (ty := .int) (C := R_Qu) (T := F_Qu) (N := 5) hx hb hT uw_Qu ty_Qu ok_Qu nm_Qu hown hK hP hD hS 0 rfl rfl 2 (by decide) (hT _ fl) (fun _ h9 => h9) rfl hin rfl (by decide +kernel) rfl rfl (Nat.le_of_ble_eq_true rfl) hdg kk
  · intro hP hD kk; exact va_putF (D := (dC, dI)) (ci := 8) (v := .int x) (ty := .int) (C := R_Ti) (T := F_Ti) (N := 5) hx hb hT uw_Ti ty_Ti ok_Ti nm_Ti hown hK hP hD hS 0 rfl rfl 2 (by decide) (hT _ fl) (fun _ h9 => h9) rfl hin rfl (by decide +kernel) rfl rfl (Nat.le_of_ble_eq_true rfl) hdg kk
  · intro hP hD kk; exact va_putF (D := (dC, dI)) (ci := 9) (v := .int x) (ty := .int) (C := R_Tr) (T := F_Tr) (N := 5) hx hb hT uw_Tr ty_Tr ok_Tr nm_Tr hown hK hP hD hS 0 rfl rfl 2 (by decide) (hT _ fl) (fun _ h9 => h9) rfl hin rfl (by decide +kernel) rfl rfl (Nat.le_of_ble_eq_true rfl) hdg kk
  · intro hP hD kk; exact va_putF (D := (dC, dI)) (ci := 10) (v := .int x) (ty := .int) (C := R_Wa) (T := F_Wa) (N := 5) hx hb hT uw_Wa ty_Wa ok_Wa nm_Wa hown hK hP hD hS 0 rfl rfl 2 (by decide) (hT _ fl) (fun _ h9 => h9) rfl hin rfl (by decide +kernel) rfl rfl (Nat.le_of_ble_eq_true rfl) hdg kk
theorem yp_3 {p : Program} {l : Launch} {e : Env} {Rm : Room} {s : State} {m : MethodId} {args : Array Value} {below : List Frame} {meth : Method} {c : Code} {H : Heap} {locs : List Loc} {cells slots : Nat} {Q : State → Prop} {cc : ByteArray} {pc ix a ci : Nat} {ls : Array Slot} {rest : List Value} {dC : Nat → ClassId} {dI : Nat → Nat → Nat} {d : Nat → Int32} {A : Nat → Prop} {H0 : Heap} {x : Int32} (hx : p.tables.exec = Jvm.exec) (hb : c.code = cc) (hT : ∀ w ∈ WT, w.before args s = true) (hown : s.vm.findClass "LanternBridge$Walker" = some m.cls) (hin : meth.name = "<init>") (hK : va_K (dC, dI) CL [] s) (hci : ci ∈ wcl) (hP : va_P (dC, dI) CL (yX ci a d) H) (hD : va_D A (yX ci a d)) (hS : va_S A H0 H locs) (fl : Cond.fieldLink "LanternBridge$Walker" ix "LanternBridge$Walker" "pace" "I" ∈ WT) (hdg : decode cc pc = .ok (.putfield ix, 3)) (kk : ∀ (H1 : Heap) (locs1 : List Loc), va_P (dC, dI) CL (yX ci a (upd d 3 x)) H1 → va_D A (yX ci a (upd d 3 x)) → va_S A H0 H1 locs1 → W p l e Rm s m args below meth c H1 locs1 cells slots Q (F0 m (pc + 3) ls rest)) : W p l e Rm s m args below meth c H locs cells slots Q (F0 m pc ls (.int x :: .ref a :: rest)) := by
  revert hP hD kk
  refine w_cases (P := fun ci => va_P (dC, dI) CL (yX ci a d) H → va_D A (yX ci a d) → (∀ (H1 : Heap) (locs1 : List Loc), va_P (dC, dI) CL (yX ci a (upd d 3 x)) H1 → va_D A (yX ci a (upd d 3 x)) → va_S A H0 H1 locs1 → W p l e Rm s m args below meth c H1 locs1 cells slots Q (F0 m (pc + 3) ls rest)) → _) ?_ ?_ ?_ ?_ ?_ ?_ ?_ hci
  · intro hP hD kk; exact va_putF (D := (dC, dI)) (ci := 0) (v := .int x) (ty := .int) (C := R_Ca) (T := F_Ca) (N := 5) hx hb hT uw_Ca ty_Ca ok_Ca nm_Ca hown hK hP hD hS 0 rfl rfl 3 (by decide) (hT _ fl) (fun _ h9 => h9) rfl hin rfl (by decide +kernel) rfl rfl (Nat.le_of_ble_eq_true rfl) hdg kk
  · intro hP hD kk; exact va_putF (D := (dC, dI)) (ci := 2) (v := .int x) (ty := .int) (C := R_La) (T := F_La) (N := 5) hx hb hT uw_La ty_La ok_La nm_La hown hK hP hD hS 0 rfl rfl 3 (by decide) (hT _ fl) (fun _ h9 => h9) rfl hin rfl (by decide +kernel) rfl rfl (Nat.le_of_ble_eq_true rfl) hdg kk
  · intro hP hD kk; exact va_putF (D := (dC, dI)) (ci := 3) (v := .int x) (ty := .int) (C := R_Le) (T := F_Le) (N := 5) hx hb hT uw_Le ty_Le ok_Le nm_Le hown hK hP hD hS 0 rfl rfl 3 (by decide) (hT _ fl) (fun _ h9 => h9) rfl hin rfl (by decide +kernel) rfl rfl (Nat.le_of_ble_eq_true rfl) hdg kk
  · intro hP hD kk; exact va_putF (D := (dC, dI)) (ci := 5) (v := .int x) (ty := .int) (C := R_Qu) (T := F_Qu) (N := 5) hx hb hT uw_Qu ty_Qu ok_Qu nm_Qu hown hK hP hD hS 0 rfl rfl 3 (by decide) (hT _ fl) (fun _ h9 => h9) rfl hin rfl (by decide +kernel) rfl rfl (Nat.le_of_ble_eq_true rfl) hdg kk
  · intro hP hD kk; exact va_putF (D := (dC, dI)) (ci := 8) (v := .int x) (ty := .int) (C := R_Ti) (T := F_Ti) (N := 5) hx hb hT uw_Ti ty_Ti ok_Ti nm_Ti hown hK hP hD hS 0 rfl rfl 3 (by decide) (hT _ fl) (fun _ h9 => h9) rfl hin rfl (by decide +kernel) rfl rfl (Nat.le_of_ble_eq_true rfl) hdg kk
  · intro hP hD kk; exact va_putF (D := (dC, dI)) (ci := 9) (v := .int x) (ty := .int) (C := R_Tr) (T := F_Tr) (N := 5) hx hb hT uw_Tr ty_Tr ok_Tr nm_Tr hown hK hP hD hS 0 rfl rfl 3 (by decide) (hT _ fl) (fun _ h9 => h9) rfl hin rfl (by decide +kernel) rfl rfl (Nat.le_of_ble_eq_true rfl) hdg kk
  · intro hP hD kk; exact va_putF (D := (dC, dI)) (ci := 10) (v := .int x) (ty := .int) (C := R_Wa) (T := F_Wa) (N := 5) hx hb hT uw_Wa ty_Wa ok_Wa nm_Wa hown hK hP hD hS 0 rfl rfl 3 (by decide) (hT _ fl) (fun _ h9 => h9) rfl hin rfl (by decide +kernel) rfl rfl (Nat.le_of_ble_eq_true rfl) hdg kk
theorem yp_4 {p : Program} {l : Launch} {e : Env} {Rm : Room} {s : State} {m : MethodId} {args : Array Value} {below : List Frame} {meth : Method} {c : Code} {H : Heap} {locs : List Loc} {cells slots : Nat} {Q : State → Prop} {cc : ByteArray} {pc ix a ci : Nat} {ls : Array Slot} {rest : List Value} {dC : Nat → ClassId} {dI : Nat → Nat → Nat} {d : Nat → Int32} {A : Nat → Prop} {H0 : Heap} {x : Int32} (hx : p.tables.exec = Jvm.exec) (hb : c.code = cc) (hT : ∀ w ∈ WT, w.before args s = true) (hown : s.vm.findClass "LanternBridge$Walker" = some m.cls) (hin : meth.name = "<init>") (hK : va_K (dC, dI) CL [] s) (hci : ci ∈ wcl) (hP : va_P (dC, dI) CL (yX ci a d) H) (hD : va_D A (yX ci a d)) (hS : va_S A H0 H locs) (fl : Cond.fieldLink "LanternBridge$Walker" ix "LanternBridge$Walker" "weight" "I" ∈ WT) (hdg : decode cc pc = .ok (.putfield ix, 3)) (kk : ∀ (H1 : Heap) (locs1 : List Loc), va_P (dC, dI) CL (yX ci a (upd d 4 x)) H1 → va_D A (yX ci a (upd d 4 x)) → va_S A H0 H1 locs1 → W p l e Rm s m args below meth c H1 locs1 cells slots Q (F0 m (pc + 3) ls rest)) : W p l e Rm s m args below meth c H locs cells slots Q (F0 m pc ls (.int x :: .ref a :: rest)) := by
  revert hP hD kk
  refine w_cases (P := fun ci => va_P (dC, dI) CL (yX ci a d) H → va_D A (yX ci a d) → (∀ (H1 : Heap) (locs1 : List Loc), va_P (dC, dI) CL (yX ci a (upd d 4 x)) H1 → va_D A (yX ci a (upd d 4 x)) → va_S A H0 H1 locs1 → W p l e Rm s m args below meth c H1 locs1 cells slots Q (F0 m (pc + 3) ls rest)) → _) ?_ ?_ ?_ ?_ ?_ ?_ ?_ hci
  · intro hP hD kk; exact va_putF (D := (dC, dI)) (ci := 0) (v := .int x) (ty := .int) (C := R_Ca) (T := F_Ca) (N := 5) hx hb hT uw_Ca ty_Ca ok_Ca nm_Ca hown hK hP hD hS 0 rfl rfl 4 (by decide) (hT _ fl) (fun _ h9 => h9) rfl hin rfl (by decide +kernel) rfl rfl (Nat.le_of_ble_eq_true rfl) hdg kk
  · intro hP hD kk; exact va_putF (D := (dC, dI)) (ci := 2) (v := .int x) (ty := .int) (C := R_La) (T := F_La) (N := 5) hx hb hT uw_La ty_La ok_La nm_La hown hK hP hD hS 0 rfl rfl 4 (by decide) (hT _ fl) (fun _ h9 => h9) rfl hin rfl (by decide +kernel) rfl rfl (Nat.le_of_ble_eq_true rfl) hdg kk
  · intro hP hD kk; exact va_putF (D := (dC, dI)) (ci := 3) (v := .int x) (ty := .int) (C := R_Le) (T := F_Le) (N := 5) hx hb hT uw_Le ty_Le ok_Le nm_Le hown hK hP hD hS 0 rfl rfl 4 (by decide) (hT _ fl) (fun _ h9 => h9) rfl hin rfl (by decide +kernel) rfl rfl (Nat.le_of_ble_eq_true rfl) hdg kk
  · intro hP hD kk; exact va_putF (D := (dC, dI)) (ci := 5) (v := .int x) (ty := .int) (C := R_Qu) (T := F_Qu) (N := 5) hx hb hT uw_Qu ty_Qu ok_Qu nm_Qu hown hK hP hD hS 0 rfl rfl 4 (by decide) (hT _ fl) (fun _ h9 => h9) rfl hin rfl (by decide +kernel) rfl rfl (Nat.le_of_ble_eq_true rfl) hdg kk
  · intro hP hD kk; exact va_putF (D := (dC, dI)) (ci := 8) (v := .int x) (ty := .int) (C := R_Ti) (T := F_Ti) (N := 5) hx hb hT uw_Ti ty_Ti ok_Ti nm_Ti hown hK hP hD hS 0 rfl rfl 4 (by decide) (hT _ fl) (fun _ h9 => h9) rfl hin rfl (by decide +kernel) rfl rfl (Nat.le_of_ble_eq_true rfl) hdg kk
  · intro hP hD kk; exact va_putF (D := (dC, dI)) (ci := 9) (v := .int x) (ty := .int) (C := R_Tr) (T := F_Tr) (N := 5) hx hb hT uw_Tr ty_Tr ok_Tr nm_Tr hown hK hP hD hS 0 rfl rfl 4 (by decide) (hT _ fl) (fun _ h9 => h9) rfl hin rfl (by decide +kernel) rfl rfl (Nat.le_of_ble_eq_true rfl) hdg kk
  · intro hP hD kk; exact va_putF (D := (dC, dI)) (ci := 10) (v := .int x) (ty := .int) (C := R_Wa) (T := F_Wa) (N := 5) hx hb hT uw_Wa ty_Wa ok_Wa nm_Wa hown hK hP hD hS 0 rfl rfl 4 (by decide) (hT _ fl) (fun _ h9 => h9) rfl hin rfl (by decide +kernel) rfl rfl (Nat.le_of_ble_eq_true rfl) hdg kk
theorem hd_Wa_init : y_Wa_init.cls ≠ "java/lang/invoke/MethodHandle" ∧ y_Wa_init.cls ≠ "java/lang/invoke/VarHandle" ∧ (parseMethodDescriptor y_Wa_init.desc).map (fun d => d.parameters.length) = some 5 := by decide +kernel
theorem d_Wa_init_0 : decode b_Wa_init 0 = .ok (.aload_n 0, 1) := by decide +kernel
theorem d_Wa_init_1 : decode b_Wa_init 1 = .ok (.invokespecial 1, 3) := by decide +kernel
theorem d_Wa_init_4 : decode b_Wa_init 4 = .ok (.aload_n 0, 1) := by decide +kernel
theorem d_Wa_init_5 : decode b_Wa_init 5 = .ok (.iload_n 1, 1) := by decide +kernel
theorem d_Wa_init_6 : decode b_Wa_init 6 = .ok (.putfield 7, 3) := by decide +kernel
theorem d_Wa_init_9 : decode b_Wa_init 9 = .ok (.aload_n 0, 1) := by decide +kernel
theorem d_Wa_init_10 : decode b_Wa_init 10 = .ok (.iload_n 2, 1) := by decide +kernel
theorem d_Wa_init_11 : decode b_Wa_init 11 = .ok (.putfield 13, 3) := by decide +kernel
theorem d_Wa_init_14 : decode b_Wa_init 14 = .ok (.aload_n 0, 1) := by decide +kernel
theorem d_Wa_init_15 : decode b_Wa_init 15 = .ok (.iload_n 3, 1) := by decide +kernel
theorem d_Wa_init_16 : decode b_Wa_init 16 = .ok (.putfield 16, 3) := by decide +kernel
theorem d_Wa_init_19 : decode b_Wa_init 19 = .ok (.aload_n 0, 1) := by decide +kernel
theorem d_Wa_init_20 : decode b_Wa_init 20 = .ok (.iload 4, 2) := by decide +kernel
theorem d_Wa_init_22 : decode b_Wa_init 22 = .ok (.putfield 19, 3) := by decide +kernel
theorem d_Wa_init_25 : decode b_Wa_init 25 = .ok (.aload_n 0, 1) := by decide +kernel
theorem d_Wa_init_26 : decode b_Wa_init 26 = .ok (.iload 5, 2) := by decide +kernel
theorem d_Wa_init_28 : decode b_Wa_init 28 = .ok (.putfield 22, 3) := by decide +kernel
theorem d_Wa_init_31 : decode b_Wa_init 31 = .ok (.return_, 1) := by decide +kernel
set_option maxHeartbeats 4000000 in
theorem c_Wa_init (l : Launch) (dC : Nat → ClassId) (dI : Nat → Nat → Nat) {ci : Nat} (hci : ci ∈ wcl) (a sz : Nat) (d : Nat → Int32) (v1 v2 v3 v4 v5 : Int32) : Met l y_Wa_init (Cond.code y_Wa_init b_Wa_init 6 none :: WT) (rL 2) (va_Pc [.ref a, .int v1, .int v2, .int v3, .int v4, .int v5] (yP dC dI ci a d sz)) (va_Qv (fun (u : Nat → Int32) => u = wv v1 v2 v3 v4 v5) (yB dC dI ci a (va_A (yX ci a d) sz)) (va_A (yX ci a d) sz)) 0 0 (va_A (yX ci a d) sz) := by
  refine Met.ofW (cc := b_Wa_init) (maxL := 6) (ret := none) (by decide) rfl ?_
  intro p e s m args below meth c s₁ B hml hv
  obtain ⟨rfl, hsz, hP, hK, hD0⟩ := hv
  have hx := B.exec
  have hb := B.bytes
  have hr := B.returns
  have hts := atoms_spec (ws := Cond.code y_Wa_init b_Wa_init 6 none :: WT) B.pre
  have hT : ∀ w ∈ WT, w.before _ s = true := fun w hw => hts w (List.mem_cons_of_mem _ hw)
  have hown : s.vm.findClass "LanternBridge$Walker" = some m.cls := findClass_of_methodNamed B.named
  have hlk := B.notSynchronized
  have hin : meth.name = "<init>" := (name_of_methodNamed B.named B.method).1
  subst hsz
  have hD := hD0.self (sz := s.heap.size)
  generalize hAe : va_A (yX ci a d) s.heap.size = A at hD ⊢
  have hA : ∀ q : Nat, s.heap.size ≤ q → A q := fun q h => by rw [← hAe]; exact Or.inr h
  have hS : va_S A s.heap s.heap [] := va_S.rf
  obtain ⟨ls, hE, hl⟩ := en_ls m [.ref a, .int v1, .int v2, .int v3, .int v4, .int v5] (n := 6) (Nat.le_of_ble_eq_true rfl)
  rw [hE]
  have hl : lv_has ls 6 [(0, .ref a), (1, .int v1), (2, .int v2), (3, .int v3), (4, .int v4), (5, .int v5)] := hl
  refine lv_aload_n hx hb d_Wa_init_0 rfl (lv_at hl 0 rfl) ?_
  refine W.objInit hx hb hown (hT _ ml_Wa_1) (hT _ im_Object_init) (hT _ cdO) rfl (by rw [hml]; exact hl.1) rfl d_Wa_init_1 (Nat.le_of_ble_eq_true rfl) (Nat.le_of_ble_eq_true rfl) ?_
  refine W.eq (g2 := F0 m 4 ls []) rfl ?_
  refine lv_aload_n hx hb d_Wa_init_4 rfl (lv_at hl 0 rfl) ?_
  refine lv_iload_n hx hb d_Wa_init_5 rfl (lv_at hl 1 rfl) ?_
  refine yp_0 hx hb hT hown hin hK hci hP hD hS fl_Wa_7 d_Wa_init_6 (fun H locs hP hD hS => ?_)
  refine lv_aload_n hx hb d_Wa_init_9 rfl (lv_at hl 0 rfl) ?_
  refine lv_iload_n hx hb d_Wa_init_10 rfl (lv_at hl 2 rfl) ?_
  refine yp_1 hx hb hT hown hin hK hci hP hD hS fl_Wa_13 d_Wa_init_11 (fun H locs hP hD hS => ?_)
  refine lv_aload_n hx hb d_Wa_init_14 rfl (lv_at hl 0 rfl) ?_
  refine lv_iload_n hx hb d_Wa_init_15 rfl (lv_at hl 3 rfl) ?_
  refine yp_2 hx hb hT hown hin hK hci hP hD hS fl_Wa_16 d_Wa_init_16 (fun H locs hP hD hS => ?_)
  refine lv_aload_n hx hb d_Wa_init_19 rfl (lv_at hl 0 rfl) ?_
  refine lv_iload hx hb d_Wa_init_20 (lv_at hl 4 rfl) ?_
  refine yp_3 hx hb hT hown hin hK hci hP hD hS fl_Wa_19 d_Wa_init_22 (fun H locs hP hD hS => ?_)
  refine lv_aload_n hx hb d_Wa_init_25 rfl (lv_at hl 0 rfl) ?_
  refine lv_iload hx hb d_Wa_init_26 (lv_at hl 5 rfl) ?_
  refine yp_4 hx hb hT hown hin hK hci hP hD hS fl_Wa_22 d_Wa_init_28 (fun H locs hP hD hS => ?_)
  have hP : va_P (dC, dI) CL (yX ci a (wv v1 v2 v3 v4 v5)) H := hP
  have hD : va_D A (yX ci a (wv v1 v2 v3 v4 v5)) := hD
  exact W.vret hx hb hr (fun t ht hW => ⟨⟨_, rfl, rfl, by rw [ht]; exact hP, va_K.moved hW.alike hK, hD⟩, hS.F ht⟩) hS.2.2 d_Wa_init_31 hlk
theorem hd_Qu_init : y_Qu_init.cls ≠ "java/lang/invoke/MethodHandle" ∧ y_Qu_init.cls ≠ "java/lang/invoke/VarHandle" ∧ (parseMethodDescriptor y_Qu_init.desc).map (fun d => d.parameters.length) = some 5 := by decide +kernel
theorem d_Qu_init_0 : decode b_Qu_init 0 = .ok (.aload_n 0, 1) := by decide +kernel
theorem d_Qu_init_1 : decode b_Qu_init 1 = .ok (.iload_n 1, 1) := by decide +kernel
theorem d_Qu_init_2 : decode b_Qu_init 2 = .ok (.iload_n 2, 1) := by decide +kernel
theorem d_Qu_init_3 : decode b_Qu_init 3 = .ok (.iload_n 3, 1) := by decide +kernel
theorem d_Qu_init_4 : decode b_Qu_init 4 = .ok (.iload 4, 2) := by decide +kernel
theorem d_Qu_init_6 : decode b_Qu_init 6 = .ok (.iload 5, 2) := by decide +kernel
theorem d_Qu_init_8 : decode b_Qu_init 8 = .ok (.invokespecial 1, 3) := by decide +kernel
theorem d_Qu_init_11 : decode b_Qu_init 11 = .ok (.return_, 1) := by decide +kernel
set_option maxHeartbeats 4000000 in
theorem c_Qu_init (l : Launch) (dC : Nat → ClassId) (dI : Nat → Nat → Nat) {ci : Nat} (hci : ci ∈ wcl) (a sz : Nat) (d : Nat → Int32) (v1 v2 v3 v4 v5 : Int32) : Met l y_Qu_init (Cond.code y_Qu_init b_Qu_init 6 none :: WT) (rL 3) (va_Pc [.ref a, .int v1, .int v2, .int v3, .int v4, .int v5] (yP dC dI ci a d sz)) (va_Qv (fun (u : Nat → Int32) => u = wv v1 v2 v3 v4 v5) (yB dC dI ci a (va_A (yX ci a d) sz)) (va_A (yX ci a d) sz)) 0 0 (va_A (yX ci a d) sz) := by
  refine Met.ofW (cc := b_Qu_init) (maxL := 6) (ret := none) (by decide) rfl ?_
  intro p e s m args below meth c s₁ B hml hv
  obtain ⟨rfl, hsz, hP, hK, hD0⟩ := hv
  have hx := B.exec
  have hb := B.bytes
  have hr := B.returns
  have hts := atoms_spec (ws := Cond.code y_Qu_init b_Qu_init 6 none :: WT) B.pre
  have hT : ∀ w ∈ WT, w.before _ s = true := fun w hw => hts w (List.mem_cons_of_mem _ hw)
  have hown : s.vm.findClass "LanternBridge$Quick" = some m.cls := findClass_of_methodNamed B.named
  have hlk := B.notSynchronized
  have hin : meth.name = "<init>" := (name_of_methodNamed B.named B.method).1
  subst hsz
  have hD := hD0.self (sz := s.heap.size)
  generalize hAe : va_A (yX ci a d) s.heap.size = A at hD ⊢
  have hA : ∀ q : Nat, s.heap.size ≤ q → A q := fun q h => by rw [← hAe]; exact Or.inr h
  have hS : va_S A s.heap s.heap [] := va_S.rf
  obtain ⟨ls, hE, hl⟩ := en_ls m [.ref a, .int v1, .int v2, .int v3, .int v4, .int v5] (n := 6) (Nat.le_of_ble_eq_true rfl)
  rw [hE]
  have hl : lv_has ls 6 [(0, .ref a), (1, .int v1), (2, .int v2), (3, .int v3), (4, .int v4), (5, .int v5)] := hl
  refine lv_aload_n hx hb d_Qu_init_0 rfl (lv_at hl 0 rfl) ?_
  refine lv_iload_n hx hb d_Qu_init_1 rfl (lv_at hl 1 rfl) ?_
  refine lv_iload_n hx hb d_Qu_init_2 rfl (lv_at hl 2 rfl) ?_
  refine lv_iload_n hx hb d_Qu_init_3 rfl (lv_at hl 3 rfl) ?_
  refine lv_iload hx hb d_Qu_init_4 (lv_at hl 4 rfl) ?_
  refine lv_iload hx hb d_Qu_init_6 (lv_at hl 5 rfl) ?_
  refine va_callv (va_runI (As := [.int v1, .int v2, .int v3, .int v4, .int v5]) (rest := []) ⟨hx, hb, hml, hown, hT⟩ (c_Wa_init l dC dI hci a s.heap.size d v1 v2 v3 v4 v5) ⟨cbW 5 hT cd_Wa_init rfl rfl ini_Wa ml_Qu_1 hd_Wa_init (rL_ok (by decide) (by decide)), rfl, hT _ im_Wa_init⟩ ⟨fun a U g mk q => ⟨q.1, q.2.1, q.2.2.1, va_K.moved (u := U) (U := U.calling g mk a) (Vm.Alike.refl U.vm) q.2.2.2.1, q.2.2.2.2⟩, fun U hU hW => ⟨rfl, by rw [hU], by rw [hU]; exact hP, va_K.moved hW.alike hK, hD.weaken (fun _ _ _ _ => trivial)⟩⟩ rfl rfl hl.1 rfl (lv_room (Nat.le_of_ble_eq_true rfl)) d_Qu_init_8 ⟨Nat.zero_le _, Nat.zero_le _⟩) hS (fun q _ h => by rw [← hAe]; exact h) (fun q h => by rw [← hAe]; exact h) (fun u t H1 locs1 ht hvm hw hB hz1 hk1 hS => ?_)
  cases hw
  have hP1 : va_P (dC, dI) CL (yX ci a (wv v1 v2 v3 v4 v5)) H1 := by rw [← ht]; exact hB.1
  have hD1 : va_D A (yX ci a (wv v1 v2 v3 v4 v5)) := by rw [← hAe]; exact hB.2.2
  exact W.vret hx hb hr (fun t2 ht2 hW2 => ⟨⟨_, rfl, rfl, by rw [ht2]; exact hP1, va_K.moved hW2.alike hK, hD1⟩, hS.F ht2⟩) hS.2.2 d_Qu_init_11 hlk
theorem hd_La_init : y_La_init.cls ≠ "java/lang/invoke/MethodHandle" ∧ y_La_init.cls ≠ "java/lang/invoke/VarHandle" ∧ (parseMethodDescriptor y_La_init.desc).map (fun d => d.parameters.length) = some 5 := by decide +kernel
theorem d_La_init_0 : decode b_La_init 0 = .ok (.aload_n 0, 1) := by decide +kernel
theorem d_La_init_1 : decode b_La_init 1 = .ok (.iload_n 1, 1) := by decide +kernel
theorem d_La_init_2 : decode b_La_init 2 = .ok (.iload_n 2, 1) := by decide +kernel
theorem d_La_init_3 : decode b_La_init 3 = .ok (.iload_n 3, 1) := by decide +kernel
theorem d_La_init_4 : decode b_La_init 4 = .ok (.iload 4, 2) := by decide +kernel
theorem d_La_init_6 : decode b_La_init 6 = .ok (.iload 5, 2) := by decide +kernel
theorem d_La_init_8 : decode b_La_init 8 = .ok (.invokespecial 1, 3) := by decide +kernel
theorem d_La_init_11 : decode b_La_init 11 = .ok (.return_, 1) := by decide +kernel
set_option maxHeartbeats 4000000 in
theorem c_La_init (l : Launch) (dC : Nat → ClassId) (dI : Nat → Nat → Nat) {ci : Nat} (hci : ci ∈ wcl) (a sz : Nat) (d : Nat → Int32) (v1 v2 v3 v4 v5 : Int32) : Met l y_La_init (Cond.code y_La_init b_La_init 6 none :: WT) (rL 3) (va_Pc [.ref a, .int v1, .int v2, .int v3, .int v4, .int v5] (yP dC dI ci a d sz)) (va_Qv (fun (u : Nat → Int32) => u = wv v1 v2 v3 v4 v5) (yB dC dI ci a (va_A (yX ci a d) sz)) (va_A (yX ci a d) sz)) 0 0 (va_A (yX ci a d) sz) := by
  refine Met.ofW (cc := b_La_init) (maxL := 6) (ret := none) (by decide) rfl ?_
  intro p e s m args below meth c s₁ B hml hv
  obtain ⟨rfl, hsz, hP, hK, hD0⟩ := hv
  have hx := B.exec
  have hb := B.bytes
  have hr := B.returns
  have hts := atoms_spec (ws := Cond.code y_La_init b_La_init 6 none :: WT) B.pre
  have hT : ∀ w ∈ WT, w.before _ s = true := fun w hw => hts w (List.mem_cons_of_mem _ hw)
  have hown : s.vm.findClass "LanternBridge$Lame" = some m.cls := findClass_of_methodNamed B.named
  have hlk := B.notSynchronized
  have hin : meth.name = "<init>" := (name_of_methodNamed B.named B.method).1
  subst hsz
  have hD := hD0.self (sz := s.heap.size)
  generalize hAe : va_A (yX ci a d) s.heap.size = A at hD ⊢
  have hA : ∀ q : Nat, s.heap.size ≤ q → A q := fun q h => by rw [← hAe]; exact Or.inr h
  have hS : va_S A s.heap s.heap [] := va_S.rf
  obtain ⟨ls, hE, hl⟩ := en_ls m [.ref a, .int v1, .int v2, .int v3, .int v4, .int v5] (n := 6) (Nat.le_of_ble_eq_true rfl)
  rw [hE]
  have hl : lv_has ls 6 [(0, .ref a), (1, .int v1), (2, .int v2), (3, .int v3), (4, .int v4), (5, .int v5)] := hl
  refine lv_aload_n hx hb d_La_init_0 rfl (lv_at hl 0 rfl) ?_
  refine lv_iload_n hx hb d_La_init_1 rfl (lv_at hl 1 rfl) ?_
  refine lv_iload_n hx hb d_La_init_2 rfl (lv_at hl 2 rfl) ?_
  refine lv_iload_n hx hb d_La_init_3 rfl (lv_at hl 3 rfl) ?_
  refine lv_iload hx hb d_La_init_4 (lv_at hl 4 rfl) ?_
  refine lv_iload hx hb d_La_init_6 (lv_at hl 5 rfl) ?_
  refine va_callv (va_runI (As := [.int v1, .int v2, .int v3, .int v4, .int v5]) (rest := []) ⟨hx, hb, hml, hown, hT⟩ (c_Wa_init l dC dI hci a s.heap.size d v1 v2 v3 v4 v5) ⟨cbW 5 hT cd_Wa_init rfl rfl ini_Wa ml_La_1 hd_Wa_init (rL_ok (by decide) (by decide)), rfl, hT _ im_Wa_init⟩ ⟨fun a U g mk q => ⟨q.1, q.2.1, q.2.2.1, va_K.moved (u := U) (U := U.calling g mk a) (Vm.Alike.refl U.vm) q.2.2.2.1, q.2.2.2.2⟩, fun U hU hW => ⟨rfl, by rw [hU], by rw [hU]; exact hP, va_K.moved hW.alike hK, hD.weaken (fun _ _ _ _ => trivial)⟩⟩ rfl rfl hl.1 rfl (lv_room (Nat.le_of_ble_eq_true rfl)) d_La_init_8 ⟨Nat.zero_le _, Nat.zero_le _⟩) hS (fun q _ h => by rw [← hAe]; exact h) (fun q h => by rw [← hAe]; exact h) (fun u t H1 locs1 ht hvm hw hB hz1 hk1 hS => ?_)
  cases hw
  have hP1 : va_P (dC, dI) CL (yX ci a (wv v1 v2 v3 v4 v5)) H1 := by rw [← ht]; exact hB.1
  have hD1 : va_D A (yX ci a (wv v1 v2 v3 v4 v5)) := by rw [← hAe]; exact hB.2.2
  exact W.vret hx hb hr (fun t2 ht2 hW2 => ⟨⟨_, rfl, rfl, by rw [ht2]; exact hP1, va_K.moved hW2.alike hK, hD1⟩, hS.F ht2⟩) hS.2.2 d_La_init_11 hlk
theorem hd_Ti_init : y_Ti_init.cls ≠ "java/lang/invoke/MethodHandle" ∧ y_Ti_init.cls ≠ "java/lang/invoke/VarHandle" ∧ (parseMethodDescriptor y_Ti_init.desc).map (fun d => d.parameters.length) = some 5 := by decide +kernel
theorem d_Ti_init_0 : decode b_Ti_init 0 = .ok (.aload_n 0, 1) := by decide +kernel
theorem d_Ti_init_1 : decode b_Ti_init 1 = .ok (.iload_n 1, 1) := by decide +kernel
theorem d_Ti_init_2 : decode b_Ti_init 2 = .ok (.iload_n 2, 1) := by decide +kernel
theorem d_Ti_init_3 : decode b_Ti_init 3 = .ok (.iload_n 3, 1) := by decide +kernel
theorem d_Ti_init_4 : decode b_Ti_init 4 = .ok (.iload 4, 2) := by decide +kernel
theorem d_Ti_init_6 : decode b_Ti_init 6 = .ok (.iload 5, 2) := by decide +kernel
theorem d_Ti_init_8 : decode b_Ti_init 8 = .ok (.invokespecial 1, 3) := by decide +kernel
theorem d_Ti_init_11 : decode b_Ti_init 11 = .ok (.return_, 1) := by decide +kernel
set_option maxHeartbeats 4000000 in
theorem c_Ti_init (l : Launch) (dC : Nat → ClassId) (dI : Nat → Nat → Nat) {ci : Nat} (hci : ci ∈ wcl) (a sz : Nat) (d : Nat → Int32) (v1 v2 v3 v4 v5 : Int32) : Met l y_Ti_init (Cond.code y_Ti_init b_Ti_init 6 none :: WT) (rL 3) (va_Pc [.ref a, .int v1, .int v2, .int v3, .int v4, .int v5] (yP dC dI ci a d sz)) (va_Qv (fun (u : Nat → Int32) => u = wv v1 v2 v3 v4 v5) (yB dC dI ci a (va_A (yX ci a d) sz)) (va_A (yX ci a d) sz)) 0 0 (va_A (yX ci a d) sz) := by
  refine Met.ofW (cc := b_Ti_init) (maxL := 6) (ret := none) (by decide) rfl ?_
  intro p e s m args below meth c s₁ B hml hv
  obtain ⟨rfl, hsz, hP, hK, hD0⟩ := hv
  have hx := B.exec
  have hb := B.bytes
  have hr := B.returns
  have hts := atoms_spec (ws := Cond.code y_Ti_init b_Ti_init 6 none :: WT) B.pre
  have hT : ∀ w ∈ WT, w.before _ s = true := fun w hw => hts w (List.mem_cons_of_mem _ hw)
  have hown : s.vm.findClass "LanternBridge$Tied" = some m.cls := findClass_of_methodNamed B.named
  have hlk := B.notSynchronized
  have hin : meth.name = "<init>" := (name_of_methodNamed B.named B.method).1
  subst hsz
  have hD := hD0.self (sz := s.heap.size)
  generalize hAe : va_A (yX ci a d) s.heap.size = A at hD ⊢
  have hA : ∀ q : Nat, s.heap.size ≤ q → A q := fun q h => by rw [← hAe]; exact Or.inr h
  have hS : va_S A s.heap s.heap [] := va_S.rf
  obtain ⟨ls, hE, hl⟩ := en_ls m [.ref a, .int v1, .int v2, .int v3, .int v4, .int v5] (n := 6) (Nat.le_of_ble_eq_true rfl)
  rw [hE]
  have hl : lv_has ls 6 [(0, .ref a), (1, .int v1), (2, .int v2), (3, .int v3), (4, .int v4), (5, .int v5)] := hl
  refine lv_aload_n hx hb d_Ti_init_0 rfl (lv_at hl 0 rfl) ?_
  refine lv_iload_n hx hb d_Ti_init_1 rfl (lv_at hl 1 rfl) ?_
  refine lv_iload_n hx hb d_Ti_init_2 rfl (lv_at hl 2 rfl) ?_
  refine lv_iload_n hx hb d_Ti_init_3 rfl (lv_at hl 3 rfl) ?_
  refine lv_iload hx hb d_Ti_init_4 (lv_at hl 4 rfl) ?_
  refine lv_iload hx hb d_Ti_init_6 (lv_at hl 5 rfl) ?_
  refine va_callv (va_runI (As := [.int v1, .int v2, .int v3, .int v4, .int v5]) (rest := []) ⟨hx, hb, hml, hown, hT⟩ (c_Wa_init l dC dI hci a s.heap.size d v1 v2 v3 v4 v5) ⟨cbW 5 hT cd_Wa_init rfl rfl ini_Wa ml_Ti_1 hd_Wa_init (rL_ok (by decide) (by decide)), rfl, hT _ im_Wa_init⟩ ⟨fun a U g mk q => ⟨q.1, q.2.1, q.2.2.1, va_K.moved (u := U) (U := U.calling g mk a) (Vm.Alike.refl U.vm) q.2.2.2.1, q.2.2.2.2⟩, fun U hU hW => ⟨rfl, by rw [hU], by rw [hU]; exact hP, va_K.moved hW.alike hK, hD.weaken (fun _ _ _ _ => trivial)⟩⟩ rfl rfl hl.1 rfl (lv_room (Nat.le_of_ble_eq_true rfl)) d_Ti_init_8 ⟨Nat.zero_le _, Nat.zero_le _⟩) hS (fun q _ h => by rw [← hAe]; exact h) (fun q h => by rw [← hAe]; exact h) (fun u t H1 locs1 ht hvm hw hB hz1 hk1 hS => ?_)
  cases hw
  have hP1 : va_P (dC, dI) CL (yX ci a (wv v1 v2 v3 v4 v5)) H1 := by rw [← ht]; exact hB.1
  have hD1 : va_D A (yX ci a (wv v1 v2 v3 v4 v5)) := by rw [← hAe]; exact hB.2.2
  exact W.vret hx hb hr (fun t2 ht2 hW2 => ⟨⟨_, rfl, rfl, by rw [ht2]; exact hP1, va_K.moved hW2.alike hK, hD1⟩, hS.F ht2⟩) hS.2.2 d_Ti_init_11 hlk
theorem hd_Le_init : y_Le_init.cls ≠ "java/lang/invoke/MethodHandle" ∧ y_Le_init.cls ≠ "java/lang/invoke/VarHandle" ∧ (parseMethodDescriptor y_Le_init.desc).map (fun d => d.parameters.length) = some 5 := by decide +kernel
theorem d_Le_init_0 : decode b_Le_init 0 = .ok (.aload_n 0, 1) := by decide +kernel
theorem d_Le_init_1 : decode b_Le_init 1 = .ok (.iload_n 1, 1) := by decide +kernel
theorem d_Le_init_2 : decode b_Le_init 2 = .ok (.iload_n 2, 1) := by decide +kernel
theorem d_Le_init_3 : decode b_Le_init 3 = .ok (.iload_n 3, 1) := by decide +kernel
theorem d_Le_init_4 : decode b_Le_init 4 = .ok (.iload 4, 2) := by decide +kernel
theorem d_Le_init_6 : decode b_Le_init 6 = .ok (.iload 5, 2) := by decide +kernel
theorem d_Le_init_8 : decode b_Le_init 8 = .ok (.invokespecial 1, 3) := by decide +kernel
theorem d_Le_init_11 : decode b_Le_init 11 = .ok (.return_, 1) := by decide +kernel
set_option maxHeartbeats 4000000 in
theorem c_Le_init (l : Launch) (dC : Nat → ClassId) (dI : Nat → Nat → Nat) {ci : Nat} (hci : ci ∈ wcl) (a sz : Nat) (d : Nat → Int32) (v1 v2 v3 v4 v5 : Int32) : Met l y_Le_init (Cond.code y_Le_init b_Le_init 6 none :: WT) (rL 4) (va_Pc [.ref a, .int v1, .int v2, .int v3, .int v4, .int v5] (yP dC dI ci a d sz)) (va_Qv (fun (u : Nat → Int32) => u = wv v1 v2 v3 v4 v5) (yB dC dI ci a (va_A (yX ci a d) sz)) (va_A (yX ci a d) sz)) 0 0 (va_A (yX ci a d) sz) := by
  refine Met.ofW (cc := b_Le_init) (maxL := 6) (ret := none) (by decide) rfl ?_
  intro p e s m args below meth c s₁ B hml hv
  obtain ⟨rfl, hsz, hP, hK, hD0⟩ := hv
  have hx := B.exec
  have hb := B.bytes
  have hr := B.returns
  have hts := atoms_spec (ws := Cond.code y_Le_init b_Le_init 6 none :: WT) B.pre
  have hT : ∀ w ∈ WT, w.before _ s = true := fun w hw => hts w (List.mem_cons_of_mem _ hw)
  have hown : s.vm.findClass "LanternBridge$Leading" = some m.cls := findClass_of_methodNamed B.named
  have hlk := B.notSynchronized
  have hin : meth.name = "<init>" := (name_of_methodNamed B.named B.method).1
  subst hsz
  have hD := hD0.self (sz := s.heap.size)
  generalize hAe : va_A (yX ci a d) s.heap.size = A at hD ⊢
  have hA : ∀ q : Nat, s.heap.size ≤ q → A q := fun q h => by rw [← hAe]; exact Or.inr h
  have hS : va_S A s.heap s.heap [] := va_S.rf
  obtain ⟨ls, hE, hl⟩ := en_ls m [.ref a, .int v1, .int v2, .int v3, .int v4, .int v5] (n := 6) (Nat.le_of_ble_eq_true rfl)
  rw [hE]
  have hl : lv_has ls 6 [(0, .ref a), (1, .int v1), (2, .int v2), (3, .int v3), (4, .int v4), (5, .int v5)] := hl
  refine lv_aload_n hx hb d_Le_init_0 rfl (lv_at hl 0 rfl) ?_
  refine lv_iload_n hx hb d_Le_init_1 rfl (lv_at hl 1 rfl) ?_
  refine lv_iload_n hx hb d_Le_init_2 rfl (lv_at hl 2 rfl) ?_
  refine lv_iload_n hx hb d_Le_init_3 rfl (lv_at hl 3 rfl) ?_
  refine lv_iload hx hb d_Le_init_4 (lv_at hl 4 rfl) ?_
  refine lv_iload hx hb d_Le_init_6 (lv_at hl 5 rfl) ?_
  refine va_callv (va_runI (As := [.int v1, .int v2, .int v3, .int v4, .int v5]) (rest := []) ⟨hx, hb, hml, hown, hT⟩ (c_Qu_init l dC dI hci a s.heap.size d v1 v2 v3 v4 v5) ⟨cbW 5 hT cd_Qu_init rfl rfl ini_Qu ml_Le_1 hd_Qu_init (rL_ok (by decide) (by decide)), rfl, hT _ im_Qu_init⟩ ⟨fun a U g mk q => ⟨q.1, q.2.1, q.2.2.1, va_K.moved (u := U) (U := U.calling g mk a) (Vm.Alike.refl U.vm) q.2.2.2.1, q.2.2.2.2⟩, fun U hU hW => ⟨rfl, by rw [hU], by rw [hU]; exact hP, va_K.moved hW.alike hK, hD.weaken (fun _ _ _ _ => trivial)⟩⟩ rfl rfl hl.1 rfl (lv_room (Nat.le_of_ble_eq_true rfl)) d_Le_init_8 ⟨Nat.zero_le _, Nat.zero_le _⟩) hS (fun q _ h => by rw [← hAe]; exact h) (fun q h => by rw [← hAe]; exact h) (fun u t H1 locs1 ht hvm hw hB hz1 hk1 hS => ?_)
  cases hw
  have hP1 : va_P (dC, dI) CL (yX ci a (wv v1 v2 v3 v4 v5)) H1 := by rw [← ht]; exact hB.1
  have hD1 : va_D A (yX ci a (wv v1 v2 v3 v4 v5)) := by rw [← hAe]; exact hB.2.2
  exact W.vret hx hb hr (fun t2 ht2 hW2 => ⟨⟨_, rfl, rfl, by rw [ht2]; exact hP1, va_K.moved hW2.alike hK, hD1⟩, hS.F ht2⟩) hS.2.2 d_Le_init_11 hlk
theorem hd_Ca_init : y_Ca_init.cls ≠ "java/lang/invoke/MethodHandle" ∧ y_Ca_init.cls ≠ "java/lang/invoke/VarHandle" ∧ (parseMethodDescriptor y_Ca_init.desc).map (fun d => d.parameters.length) = some 5 := by decide +kernel
theorem d_Ca_init_0 : decode b_Ca_init 0 = .ok (.aload_n 0, 1) := by decide +kernel
theorem d_Ca_init_1 : decode b_Ca_init 1 = .ok (.iload_n 1, 1) := by decide +kernel
theorem d_Ca_init_2 : decode b_Ca_init 2 = .ok (.iload_n 2, 1) := by decide +kernel
theorem d_Ca_init_3 : decode b_Ca_init 3 = .ok (.iload_n 3, 1) := by decide +kernel
theorem d_Ca_init_4 : decode b_Ca_init 4 = .ok (.iload 4, 2) := by decide +kernel
theorem d_Ca_init_6 : decode b_Ca_init 6 = .ok (.iload 5, 2) := by decide +kernel
theorem d_Ca_init_8 : decode b_Ca_init 8 = .ok (.invokespecial 1, 3) := by decide +kernel
theorem d_Ca_init_11 : decode b_Ca_init 11 = .ok (.return_, 1) := by decide +kernel
set_option maxHeartbeats 4000000 in
theorem c_Ca_init (l : Launch) (dC : Nat → ClassId) (dI : Nat → Nat → Nat) {ci : Nat} (hci : ci ∈ wcl) (a sz : Nat) (d : Nat → Int32) (v1 v2 v3 v4 v5 : Int32) : Met l y_Ca_init (Cond.code y_Ca_init b_Ca_init 6 none :: WT) (rL 4) (va_Pc [.ref a, .int v1, .int v2, .int v3, .int v4, .int v5] (yP dC dI ci a d sz)) (va_Qv (fun (u : Nat → Int32) => u = wv v1 v2 v3 v4 v5) (yB dC dI ci a (va_A (yX ci a d) sz)) (va_A (yX ci a d) sz)) 0 0 (va_A (yX ci a d) sz) := by
  refine Met.ofW (cc := b_Ca_init) (maxL := 6) (ret := none) (by decide) rfl ?_
  intro p e s m args below meth c s₁ B hml hv
  obtain ⟨rfl, hsz, hP, hK, hD0⟩ := hv
  have hx := B.exec
  have hb := B.bytes
  have hr := B.returns
  have hts := atoms_spec (ws := Cond.code y_Ca_init b_Ca_init 6 none :: WT) B.pre
  have hT : ∀ w ∈ WT, w.before _ s = true := fun w hw => hts w (List.mem_cons_of_mem _ hw)
  have hown : s.vm.findClass "LanternBridge$Carried" = some m.cls := findClass_of_methodNamed B.named
  have hlk := B.notSynchronized
  have hin : meth.name = "<init>" := (name_of_methodNamed B.named B.method).1
  subst hsz
  have hD := hD0.self (sz := s.heap.size)
  generalize hAe : va_A (yX ci a d) s.heap.size = A at hD ⊢
  have hA : ∀ q : Nat, s.heap.size ≤ q → A q := fun q h => by rw [← hAe]; exact Or.inr h
  have hS : va_S A s.heap s.heap [] := va_S.rf
  obtain ⟨ls, hE, hl⟩ := en_ls m [.ref a, .int v1, .int v2, .int v3, .int v4, .int v5] (n := 6) (Nat.le_of_ble_eq_true rfl)
  rw [hE]
  have hl : lv_has ls 6 [(0, .ref a), (1, .int v1), (2, .int v2), (3, .int v3), (4, .int v4), (5, .int v5)] := hl
  refine lv_aload_n hx hb d_Ca_init_0 rfl (lv_at hl 0 rfl) ?_
  refine lv_iload_n hx hb d_Ca_init_1 rfl (lv_at hl 1 rfl) ?_
  refine lv_iload_n hx hb d_Ca_init_2 rfl (lv_at hl 2 rfl) ?_
  refine lv_iload_n hx hb d_Ca_init_3 rfl (lv_at hl 3 rfl) ?_
  refine lv_iload hx hb d_Ca_init_4 (lv_at hl 4 rfl) ?_
  refine lv_iload hx hb d_Ca_init_6 (lv_at hl 5 rfl) ?_
  refine va_callv (va_runI (As := [.int v1, .int v2, .int v3, .int v4, .int v5]) (rest := []) ⟨hx, hb, hml, hown, hT⟩ (c_La_init l dC dI hci a s.heap.size d v1 v2 v3 v4 v5) ⟨cbW 5 hT cd_La_init rfl rfl ini_La ml_Ca_1 hd_La_init (rL_ok (by decide) (by decide)), rfl, hT _ im_La_init⟩ ⟨fun a U g mk q => ⟨q.1, q.2.1, q.2.2.1, va_K.moved (u := U) (U := U.calling g mk a) (Vm.Alike.refl U.vm) q.2.2.2.1, q.2.2.2.2⟩, fun U hU hW => ⟨rfl, by rw [hU], by rw [hU]; exact hP, va_K.moved hW.alike hK, hD.weaken (fun _ _ _ _ => trivial)⟩⟩ rfl rfl hl.1 rfl (lv_room (Nat.le_of_ble_eq_true rfl)) d_Ca_init_8 ⟨Nat.zero_le _, Nat.zero_le _⟩) hS (fun q _ h => by rw [← hAe]; exact h) (fun q h => by rw [← hAe]; exact h) (fun u t H1 locs1 ht hvm hw hB hz1 hk1 hS => ?_)
  cases hw
  have hP1 : va_P (dC, dI) CL (yX ci a (wv v1 v2 v3 v4 v5)) H1 := by rw [← ht]; exact hB.1
  have hD1 : va_D A (yX ci a (wv v1 v2 v3 v4 v5)) := by rw [← hAe]; exact hB.2.2
  exact W.vret hx hb hr (fun t2 ht2 hW2 => ⟨⟨_, rfl, rfl, by rw [ht2]; exact hP1, va_K.moved hW2.alike hK, hD1⟩, hS.F ht2⟩) hS.2.2 d_Ca_init_11 hlk
theorem hd_Tr_init : y_Tr_init.cls ≠ "java/lang/invoke/MethodHandle" ∧ y_Tr_init.cls ≠ "java/lang/invoke/VarHandle" ∧ (parseMethodDescriptor y_Tr_init.desc).map (fun d => d.parameters.length) = some 5 := by decide +kernel
theorem d_Tr_init_0 : decode b_Tr_init 0 = .ok (.aload_n 0, 1) := by decide +kernel
theorem d_Tr_init_1 : decode b_Tr_init 1 = .ok (.iload_n 1, 1) := by decide +kernel
theorem d_Tr_init_2 : decode b_Tr_init 2 = .ok (.iload_n 2, 1) := by decide +kernel
theorem d_Tr_init_3 : decode b_Tr_init 3 = .ok (.iload_n 3, 1) := by decide +kernel
theorem d_Tr_init_4 : decode b_Tr_init 4 = .ok (.iload 4, 2) := by decide +kernel
theorem d_Tr_init_6 : decode b_Tr_init 6 = .ok (.iload 5, 2) := by decide +kernel
theorem d_Tr_init_8 : decode b_Tr_init 8 = .ok (.invokespecial 3, 3) := by decide +kernel
theorem d_Tr_init_11 : decode b_Tr_init 11 = .ok (.return_, 1) := by decide +kernel
set_option maxHeartbeats 4000000 in
theorem c_Tr_init (l : Launch) (dC : Nat → ClassId) (dI : Nat → Nat → Nat) {ci : Nat} (hci : ci ∈ wcl) (a sz : Nat) (d : Nat → Int32) (v1 v2 v3 v4 v5 : Int32) : Met l y_Tr_init (Cond.code y_Tr_init b_Tr_init 6 none :: WT) (rL 4) (va_Pc [.ref a, .int v1, .int v2, .int v3, .int v4, .int v5] (yP dC dI ci a d sz)) (va_Qv (fun (u : Nat → Int32) => u = wv v1 v2 v3 v4 v5) (yB dC dI ci a (va_A (yX ci a d) sz)) (va_A (yX ci a d) sz)) 0 0 (va_A (yX ci a d) sz) := by
  refine Met.ofW (cc := b_Tr_init) (maxL := 6) (ret := none) (by decide) rfl ?_
  intro p e s m args below meth c s₁ B hml hv
  obtain ⟨rfl, hsz, hP, hK, hD0⟩ := hv
  have hx := B.exec
  have hb := B.bytes
  have hr := B.returns
  have hts := atoms_spec (ws := Cond.code y_Tr_init b_Tr_init 6 none :: WT) B.pre
  have hT : ∀ w ∈ WT, w.before _ s = true := fun w hw => hts w (List.mem_cons_of_mem _ hw)
  have hown : s.vm.findClass "LanternBridge$Tiring" = some m.cls := findClass_of_methodNamed B.named
  have hlk := B.notSynchronized
  have hin : meth.name = "<init>" := (name_of_methodNamed B.named B.method).1
  subst hsz
  have hD := hD0.self (sz := s.heap.size)
  generalize hAe : va_A (yX ci a d) s.heap.size = A at hD ⊢
  have hA : ∀ q : Nat, s.heap.size ≤ q → A q := fun q h => by rw [← hAe]; exact Or.inr h
  have hS : va_S A s.heap s.heap [] := va_S.rf
  obtain ⟨ls, hE, hl⟩ := en_ls m [.ref a, .int v1, .int v2, .int v3, .int v4, .int v5] (n := 6) (Nat.le_of_ble_eq_true rfl)
  rw [hE]
  have hl : lv_has ls 6 [(0, .ref a), (1, .int v1), (2, .int v2), (3, .int v3), (4, .int v4), (5, .int v5)] := hl
  refine lv_aload_n hx hb d_Tr_init_0 rfl (lv_at hl 0 rfl) ?_
  refine lv_iload_n hx hb d_Tr_init_1 rfl (lv_at hl 1 rfl) ?_
  refine lv_iload_n hx hb d_Tr_init_2 rfl (lv_at hl 2 rfl) ?_
  refine lv_iload_n hx hb d_Tr_init_3 rfl (lv_at hl 3 rfl) ?_
  refine lv_iload hx hb d_Tr_init_4 (lv_at hl 4 rfl) ?_
  refine lv_iload hx hb d_Tr_init_6 (lv_at hl 5 rfl) ?_
  refine va_callv (va_runI (As := [.int v1, .int v2, .int v3, .int v4, .int v5]) (rest := []) ⟨hx, hb, hml, hown, hT⟩ (c_Ti_init l dC dI hci a s.heap.size d v1 v2 v3 v4 v5) ⟨cbW 5 hT cd_Ti_init rfl rfl ini_Ti ml_Tr_3 hd_Ti_init (rL_ok (by decide) (by decide)), rfl, hT _ im_Ti_init⟩ ⟨fun a U g mk q => ⟨q.1, q.2.1, q.2.2.1, va_K.moved (u := U) (U := U.calling g mk a) (Vm.Alike.refl U.vm) q.2.2.2.1, q.2.2.2.2⟩, fun U hU hW => ⟨rfl, by rw [hU], by rw [hU]; exact hP, va_K.moved hW.alike hK, hD.weaken (fun _ _ _ _ => trivial)⟩⟩ rfl rfl hl.1 rfl (lv_room (Nat.le_of_ble_eq_true rfl)) d_Tr_init_8 ⟨Nat.zero_le _, Nat.zero_le _⟩) hS (fun q _ h => by rw [← hAe]; exact h) (fun q h => by rw [← hAe]; exact h) (fun u t H1 locs1 ht hvm hw hB hz1 hk1 hS => ?_)
  cases hw
  have hP1 : va_P (dC, dI) CL (yX ci a (wv v1 v2 v3 v4 v5)) H1 := by rw [← ht]; exact hB.1
  have hD1 : va_D A (yX ci a (wv v1 v2 v3 v4 v5)) := by rw [← hAe]; exact hB.2.2
  exact W.vret hx hb hr (fun t2 ht2 hW2 => ⟨⟨_, rfl, rfl, by rw [ht2]; exact hP1, va_K.moved hW2.alike hK, hD1⟩, hS.F ht2⟩) hS.2.2 d_Tr_init_11 hlk
