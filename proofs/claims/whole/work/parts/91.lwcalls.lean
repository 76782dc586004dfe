/-! ===== the law's calls that read, and that make cells ===== -/
theorem inP_n {E : PE} {a k : Nat} {cI : ClassId} {q : Nat × va_E} (ha : eN E a = true) (hk : (nX (nAd E a) cI (eT E a) (eI E a) (eR E a))[k]? = some q) : inP E q.1 := by
  rcases k with _ | _ | _ | _ | _ | _ | k
  · cases hk; exact Or.inr ⟨a, ha, Or.inl rfl⟩
  · cases hk; exact Or.inr ⟨a, ha, Or.inr (Or.inl rfl)⟩
  · cases hk; exact Or.inr ⟨a, ha, Or.inr (Or.inr (Or.inl rfl))⟩
  · cases hk; exact Or.inr ⟨a, ha, Or.inr (Or.inr (Or.inr (Or.inl rfl)))⟩
  · cases hk; exact Or.inr ⟨a, ha, Or.inr (Or.inr (Or.inr (Or.inr (Or.inl rfl))))⟩
  · cases hk; exact Or.inr ⟨a, ha, Or.inr (Or.inr (Or.inr (Or.inr (Or.inr rfl))))⟩
  · exact absurd hk (by simp [nX])
theorem pS_not {dC : Nat → ClassId} {dI : Nat → Nat → Nat} {cI : ClassId} {E : PE} {A : Nat → Prop} {H : Heap} {q : Nat} (h : pS dC dI cI E A H) (hq : inP E q) : ¬ A q := by
  rcases hq with hq | ⟨a, ha, rfl | rfl | rfl | rfl | rfl | rfl⟩
  · exact (h.1 q hq).2.2
  · exact (h.2 q ha).2 0 _ rfl
  · exact (h.2 a ha).2 1 _ rfl
  · exact (h.2 a ha).2 2 _ rfl
  · exact (h.2 a ha).2 3 _ rfl
  · exact (h.2 a ha).2 4 _ rfl
  · exact (h.2 a ha).2 5 _ rfl
theorem pS_grow {dC : Nat → ClassId} {dI : Nat → Nat → Nat} {cI : ClassId} {E : PE} {A B : Nat → Prop} {H : Heap} (h : pS dC dI cI E A H) (hn : ∀ q, inP E q → ¬ B q) : pS dC dI cI E (fun q => B q ∨ A q) H :=
  ⟨fun a ha => ⟨(h.1 a ha).1, (h.1 a ha).2.1, fun x => x.elim (hn a (Or.inl ha)) (h.1 a ha).2.2⟩, fun a ha => ⟨(h.2 a ha).1, fun k q hk x => x.elim (hn q.1 (inP_n ha hk)) ((h.2 a ha).2 k q hk)⟩⟩
section LWs
variable {p : Program} {l : Launch} {e : Env} {rm : Room} {s : State} {m : MethodId} {args : Array Value} {below : List Frame} {meth : Method} {c : Code} {H : Heap} {locs : List Loc} {cells slots mc ms : Nat} {Q : State → Prop} {b : ByteArray} {n pc ix na : Nat} {ls : Array Slot} {rest st0 : List Value} {As : (Nat → Nat) → List Value} {adK adV : Nat → Nat} {E : PE} {dC : Nat → ClassId} {dI : Nat → Nat → Nat} {adM adC : Nat → Nat} {cI cZ cW cJ : ClassId} {F G : Nat → Nat → Int32} {P : Nat → Nat → Option Nat} {N : Nat → Nat} {I : Nat → Int32} {R : Nat → Nat → Int32} {y : MethodName} {ty : FieldType}
theorem lw_ri {f : Option Int32} {z : Int32} (C : LC p s m args c dC dI cI cZ cW cJ adK adV) (h : LW s dC dI cI cZ cW cJ adM adC E F G P N I R H locs) {As1 : List Value} (hM : ROi l y b n ty rm (cB dC dI adC cI cZ cW cJ E F G P N) (.ref (adC 0) :: As1) f) (hf : f = some z)
    (cb : CallB room_1 s args "LanternBridgeLaw" ix y b n (some ty) (Cond.code y b n (some ty) :: WT) rm 0 0 na) (im : Cond.instanceMethod y ∈ WT) (se : Cond.selects "LanternBridge" y y ∈ WT)
    (hn : As1.length = na) (hsz : ls.size = 4) (hst : st0 = As1.reverse ++ .ref (adC 0) :: rest) (hW : (rest.map fun v => v.category).sum ≤ 8) (hdg : decode code pc = .ok (.invokevirtual ix, 3)) (hcs : cells ≤ room_1.cells ∧ slots ≤ room_1.slots)
    (kk : W p l e room_1 s m args below meth c H locs cells slots Q (F0 m (pc + 3) ls (.int z :: rest))) : W p l e room_1 s m args below meth c H locs cells slots Q (F0 m pc ls st0) :=
  kr_i C.1 C.2.1 C.2.2.1 C.2.2.2.1 C.2.2.2.2.1 cB_bl (cB_to C.2.2.2.2.2.1 h.2.1 (h.2.2.2.2.2.2.narrow (fun _ x => x.elim)) C.2.2.2.2.2.2.2.2) (va_recv C.2.2.2.2.2.1 h.2.1 (ci := 11) (q0 := 0) rfl rfl) (hM z hf) cb im se hn hsz hst hW hdg hcs kk
theorem lw_ca {post : Int32 → CU → PE → Prop} (C : LC p s m args c dC dI cI cZ cW cJ adK adV) (h : LW s dC dI cI cZ cW cJ adM adC E F G P N I R H locs) {As1 : List Value} (hAs : As adC = .ref (adC 0) :: As1) (hM : CAi l y b n ty rm mc ms E As F G P N post)
    (cb : CallB room_1 s args "LanternBridgeLaw" ix y b n (some ty) (Cond.code y b n (some ty) :: WT) rm mc ms na) (im : Cond.instanceMethod y ∈ WT) (se : Cond.selects "LanternBridge" y y ∈ WT)
    (hn : As1.length = na) (hsz : ls.size = 4) (hst : st0 = As1.reverse ++ .ref (adC 0) :: rest) (hW : (rest.map fun v => v.category).sum ≤ 8) (hdg : decode code pc = .ok (.invokevirtual ix, 3)) (hcs : cells + mc ≤ room_1.cells ∧ slots + ms ≤ room_1.slots)
    (kk : ∀ (r : Int32) (u : CU) (E' : PE) (H1 : Heap) (locs1 : List Loc), post r u E' → LW s dC dI cI cZ cW cJ adM adC E' u.1 u.2.1 u.2.2.1 u.2.2.2 I R H1 locs1 → W p l e room_1 s m args below meth c H1 locs1 (cells + mc) (slots + ms) Q (F0 m (pc + 3) ls (.int r :: rest))) : W p l e room_1 s m args below meth c H locs cells slots Q (F0 m pc ls st0) := by
  refine va_calli (va_runV (C := "LanternBridge") (b := adC 0) (As := As1) (rest := rest) ⟨C.1, C.2.1, C.2.2.1, C.2.2.2.1, C.2.2.2.2.1⟩ (hAs ▸ hM dC dI adC cI cZ cW cJ adK adV H.size) ⟨cb, C.2.2.2.2.1 _ im, C.2.2.2.2.1 _ se⟩ ⟨fun a U g mk q => ⟨q.1, q.2.1, q.2.2.1, va_K.moved (u := U) (U := U.calling g mk a) (Vm.Alike.refl U.vm) q.2.2.2.1, q.2.2.2.2.1, q.2.2.2.2.2.1.moved (u := U) (U := U.calling g mk a) (Vm.Alike.refl U.vm), q.2.2.2.2.2.2.1.same rfl, q.2.2.2.2.2.2.2.1, q.2.2.2.2.2.2.2.2.moved (u := U) (U := U.calling g mk a) (Vm.Alike.refl U.vm)⟩, va_recv C.2.2.2.2.2.1 h.2.1 (ci := 11) (q0 := 0) rfl rfl, fun U hU hW => ⟨rfl, by rw [hU], by rw [hU]; exact h.2.1, va_K.moved hW.alike C.2.2.2.2.2.1, h.2.2.2.1.weaken (fun _ _ _ _ => trivial), by rw [hU]; exact ((C.2.2.2.2.2.2.1.kept h.2.2.2.2.2.1.2.1).moved hW.alike).narrow (LW_fC h), C.2.2.2.2.2.2.2.1.warm hW, by rw [hU]; exact LW_pC h, C.2.2.2.2.2.2.2.2.moved hW.alike⟩⟩ rfl hn hsz hst (lv_room hW) hdg hcs) h.2.2.2.2.2.1 (fun q _ hq => LW_fC h q hq) (LW_fC h) (fun r1 u1 t H1 locs1 ht hvm hw hB hz1 hk1 hS => ?_)
  obtain ⟨u, E'⟩ := u1
  obtain ⟨a1, a2, a3, a4, a5⟩ := hB
  rw [ht] at a1 a4
  have h1 := LW_c h a1 a3 hk1 hS
  refine kk r1 u E' H1 locs1 hw ⟨h1.1, h1.2.1, h1.2.2.1, h1.2.2.2.1, h1.2.2.2.2.1, h1.2.2.2.2.2.1, (pS_grow (B := inM adM cI cZ) a4 (fun q hq hi => ?_)).narrow (fun q x => x.elim Or.inl (fun y => Or.inr (fixA_iff.mpr y)))⟩
  rcases a5 q hq with x | x
  · exact pS_not h.2.2.2.2.2.2 x (Or.inl hi)
  · obtain ⟨k, e, hk⟩ : ∃ (k : Nat) (e : va_E), (mX adM cI cZ I R)[k]? = some (q, e) := by
      obtain ⟨k, e, hk⟩ := hi
      rcases mX_A (I' := I) (R' := R) (sz := q + 1) (show va_A (mX adM cI cZ mI0 mR0) (q + 1) q from Or.inl ⟨k, e, hk⟩) with y | y
      · exact y
      · omega
    exact absurd (h.1 k _ hk).lt (Nat.not_lt.mpr x)
end LWs
