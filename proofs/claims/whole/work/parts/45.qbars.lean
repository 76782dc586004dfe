/-! ===== the class' side of a night's clauses ===== -/
def cds (L : List Cls) : List Nat := L.flatMap (fun c => c.2.2)
def NgC (tl : Nat) (I : Nat → Int32) (R : Nat → Nat → Int32) (L : List Cls) : Prop := (∀ c ∈ L, clOK c) ∧ L.length ≤ 10 ∧ I 10 = nI L.length ∧ tl ≤ 100 ∧ (cds L).length ≤ tl ∧ (∀ (i : Nat) (c : Cls), L[i]? = some c → R 7 i = nI c.1 ∧ R 8 i = nI c.2.1 ∧ R 9 i = nI (cds (L.take (i + 1))).length) ∧ ∀ j, j < (cds L).length → R 5 j = kC ((cds L).getD j 0)
theorem tk_succ {L : List Cls} {i : Nat} {c : Cls} (h : L[i]? = some c) : L.take (i + 1) = L.take i ++ [c] := by
  rw [List.take_add_one, h]; rfl
theorem cds_app (xs ys : List Cls) : cds (xs ++ ys) = cds xs ++ cds ys := by simp only [cds, List.flatMap_append]
theorem gDn_l (xs ys : List Nat) {j : Nat} (h : j < xs.length) : (xs ++ ys).getD j 0 = xs.getD j 0 := by
  simp only [List.getD_eq_getElem?_getD, List.getElem?_append_left h]
theorem gDn_r (xs ys : List Nat) (i : Nat) : (xs ++ ys).getD (xs.length + i) 0 = ys.getD i 0 := by
  simp only [List.getD_eq_getElem?_getD, List.getElem?_append_right (Nat.le_add_right _ _), Nat.add_sub_cancel_left]
theorem slw_app (fc : Nat → Int32) : ∀ xs ys : List Cls, slw fc (xs ++ ys) = slw fc xs + slw fc ys
  | [], ys => by simp [slw]
  | c :: xs, ys => by
    have := slw_app fc xs ys
    simp only [List.cons_append, slw]; omega
theorem brr_app (fc : Nat → Int32) : ∀ xs ys : List Cls, brr fc (xs ++ ys) = (brr fc xs || brr fc ys)
  | [], ys => by simp [brr]
  | c :: xs, ys => by
    have := brr_app fc xs ys
    simp only [List.cons_append, brr, this, Bool.or_assoc]
theorem at_split {L : List Cls} {i : Nat} {c : Cls} (h : L[i]? = some c) : L = L.take i ++ [c] ++ L.drop (i + 1) := by
  rw [← tk_succ h, List.take_append_drop]
theorem holdsC {n tl : Nat} {I : Nat → Int32} {R : Nat → Nat → Int32} {L : List Cls} {fc : Nat → Int32} {i : Nat} {c : Cls} (h : NgC tl I R L) (hc : L[i]? = some c) (h2 : c.1 < 2) (hn : 200 ≤ n) : p_Ni_holds n tl I R fc (nI i) = some (b2i (holdsS fc c.2.2)) := by
  obtain ⟨k1, k2, k3, k4, k5, k6, k7⟩ := h
  have hi : i < L.length := (List.getElem?_eq_some_iff.mp hc).1
  have hok : clOK c := k1 c (List.mem_of_getElem? hc)
  have e1 : cds (L.take (i + 1)) = cds (L.take i) ++ c.2.2 := by rw [tk_succ hc, cds_app]; simp [cds]
  have e2 : cds L = cds (L.take i) ++ (c.2.2 ++ cds (L.drop (i + 1))) := by
    conv => lhs; rw [at_split hc]
    rw [cds_app, cds_app, List.append_assoc]; simp [cds]
  have l2 : (cds L).length = (cds (L.take i)).length + (c.2.2.length + (cds (L.drop (i + 1))).length) := by rw [e2]; simp only [List.length_append]
  refine holds_ok (b := (cds (L.take i)).length) (by omega) ?_ ?_ (by omega) k4 (hok.2.2.1 h2) (fun j hj => ?_) hn
  · cases i with
    | zero => simp [cds]
    | succ i =>
      rw [if_neg (by omega)]
      obtain ⟨c', hc'⟩ : ∃ c', L[i]? = some c' := ⟨L[i]'(by omega), List.getElem?_eq_getElem (by omega)⟩
      exact (k6 i c' hc').2.2
  · rw [(k6 i c hc).2.2, e1, List.length_append]
  · rw [k7 _ (by omega), e2, gDn_r, gDn_l _ _ hj]
theorem slowC {n tl : Nat} {I : Nat → Int32} {R : Nat → Nat → Int32} {L : List Cls} {fc : Nat → Int32} (h : NgC tl I R L) (hn : 200 ≤ n) : p_Ni_slowness n tl I R fc = some (nI (slw fc L)) := by
  unfold p_Ni_slowness
  have h2 := h.2.1
  have e := q_lpf (fun k i v => l_Ni_slowness_4 n tl I R fc k v (nI i)) L.length (fun i => nI (slw fc (L.take i))) (nI (slw fc L)) (fun k => by
      show (if I 10 ≤ nI L.length then some _ else _) = _
      rw [if_pos (by rw [h.2.2.1]; exact Int32.le_refl _), List.take_length]) (fun k i hi => by
      obtain ⟨c, hc⟩ : ∃ c, L[i]? = some c := ⟨L[i]'hi, List.getElem?_eq_getElem hi⟩
      obtain ⟨a1, a2, a3⟩ := h.2.2.2.2.2.1 i c hc
      have hok : clOK c := h.1 c (List.mem_of_getElem? hc)
      show (if I 10 ≤ nI i then some _ else if ix (nI i) 10 then ((if R 7 (nI i).toNatClampNeg = 0 then (p_Ni_holds n tl I R fc (nI i)).bind fun x5 => (if x5 = 0 then some (nI (slw fc (L.take i))) else if ix (nI i) 10 then some (nI (slw fc (L.take i)) + R 8 (nI i).toNatClampNeg) else none) else some (nI (slw fc (L.take i))) : Option Int32)).bind fun x3 => l_Ni_slowness_4 n tl I R fc k x3 (nI i + 1) else none) = l_Ni_slowness_4 n tl I R fc k (nI (slw fc (L.take (i + 1)))) (nI (i + 1))
      have hx : ix (nI i) 10 := nI_in (by omega) (by omega)
      rw [if_neg (by rw [h.2.2.1]; exact nI_ge hi (by omega))]
      simp only [if_pos hx, nI_clamp (show i < 2 ^ 31 by omega), a1, a2, nI_1]
      rw [tk_succ hc, slw_app]
      have e1 : slw fc [c] = if c.1 = 0 ∧ holdsS fc c.2.2 = true then c.2.1 else 0 := by simp [slw]
      rw [e1]
      have ok1 := hok.1
      by_cases hw : c.1 = 0
      · rw [if_pos (by rw [hw]; rfl), holdsC h hc (by omega) hn]
        by_cases hh : holdsS fc c.2.2 = true
        · rw [if_pos (show c.1 = 0 ∧ holdsS fc c.2.2 = true from ⟨hw, hh⟩), hh, ← nI_add (slw fc (L.take i)) c.2.1]; rfl
        · rw [if_neg (show ¬ (c.1 = 0 ∧ holdsS fc c.2.2 = true) from fun q => hh q.2), Bool.eq_false_iff.mpr hh, Nat.add_zero]; rfl
      · rw [if_neg (show ¬ nI (c.1) = 0 from fun q => hw ((nI_eq (a := c.1) (b := 0) (by omega) (by omega)).mp q)), if_neg (show ¬ (c.1 = 0 ∧ holdsS fc c.2.2 = true) from fun q => hw q.1), Nat.add_zero]; rfl) 0 n (by omega) (by omega)
  have e' : l_Ni_slowness_4 n tl I R fc n 0 0 = some (nI (slw fc L)) := e
  rw [e']
  rfl
theorem barsC {n tl : Nat} {I : Nat → Int32} {R : Nat → Nat → Int32} {L : List Cls} {fc : Nat → Int32} (h : NgC tl I R L) (hn : 200 ≤ n) : p_Ni_bars n tl I R fc = some (b2i (brr fc L)) := by
  unfold p_Ni_bars
  have h2 := h.2.1
  obtain ⟨z, e, hz⟩ := q_lpr (fun k i (_ : Unit) => l_Ni_bars_2 n tl I R fc k (nI i)) L.length (fun i _ => brr fc (L.take i) = false) (fun z => z = b2i (brr fc L)) (fun k _ hb => by
      refine ⟨0, ?_, ?_⟩
      · show (if I 10 ≤ nI L.length then some _ else _) = _
        rw [if_pos (by rw [h.2.2.1]; exact Int32.le_refl _)]
      · rw [List.take_length] at hb
        rw [hb]; rfl) (fun k i _ hi hb => by
      obtain ⟨c, hc⟩ : ∃ c, L[i]? = some c := ⟨L[i]'hi, List.getElem?_eq_getElem hi⟩
      obtain ⟨a1, a2, a3⟩ := h.2.2.2.2.2.1 i c hc
      have hok : clOK c := h.1 c (List.mem_of_getElem? hc)
      have ok1 := hok.1
      have e0 : l_Ni_bars_2 n tl I R fc (k + 1) (nI i) = if nI c.1 = 1 then (p_Ni_holds n tl I R fc (nI i)).bind fun x3 => (if x3 = 0 then l_Ni_bars_2 n tl I R fc k (nI (i + 1)) else some 1) else l_Ni_bars_2 n tl I R fc k (nI (i + 1)) := by
        show (if I 10 ≤ nI i then some 0 else if ix (nI i) 10 then (if R 7 (nI i).toNatClampNeg = 1 then (p_Ni_holds n tl I R fc (nI i)).bind fun x3 => (if x3 = 0 then l_Ni_bars_2 n tl I R fc k (nI i + 1) else some 1) else l_Ni_bars_2 n tl I R fc k (nI i + 1)) else none) = _
        rw [if_neg (by rw [h.2.2.1]; exact nI_ge hi (by omega)), if_pos (nI_in (by omega) (by omega)), nI_clamp (by omega), a1, nI_1]
      have e1 : brr fc (L.take (i + 1)) = (brr fc (L.take i) || (decide (c.1 = 1) && holdsS fc c.2.2)) := by
        rw [tk_succ hc, brr_app]; simp [brr]
      by_cases hw : c.1 = 1
      · rw [if_pos (by rw [hw]; rfl), holdsC h hc (by omega) hn] at e0
        by_cases hh : holdsS fc c.2.2 = true
        · refine Or.inr ⟨1, by rw [e0, hh]; rfl, ?_⟩
          have e3 : brr fc L = true := by
            have := brr_app fc (L.take (i + 1)) (L.drop (i + 1))
            rw [List.take_append_drop, e1, hw, hh] at this
            rw [this]; simp
          rw [e3]; rfl
        · have hh' := Bool.eq_false_iff.mpr hh
          refine Or.inl ⟨(), by rw [e0, hh']; rfl, ?_⟩
          rw [e1, hb, hh']; simp
      · rw [if_neg (show ¬ nI (c.1) = 1 from fun q => hw ((nI_eq (a := c.1) (b := 1) (by omega) (by omega)).mp q))] at e0
        refine Or.inl ⟨(), e0, ?_⟩
        rw [e1, hb, decide_eq_false hw]; rfl) 0 () n (by omega) (by omega) rfl
  have e' : l_Ni_bars_2 n tl I R fc n 0 = some z := e
  rw [e', hz]
