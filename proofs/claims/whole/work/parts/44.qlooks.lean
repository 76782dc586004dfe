/-! ===== looks, slowness, bars ===== -/
theorem gD_l (xs ys : List Int32) {j : Nat} (h : j < xs.length) : (xs ++ ys).getD j 0 = xs.getD j 0 := by
  simp only [List.getD_eq_getElem?_getD, List.getElem?_append_left h]
theorem gD_r (xs ys : List Int32) (i : Nat) : (xs ++ ys).getD (xs.length + i) 0 = ys.getD i 0 := by
  simp only [List.getD_eq_getElem?_getD, List.getElem?_append_right (Nat.le_add_right _ _), Nat.add_sub_cancel_left]
theorem gD_m (f : Nat → Int32) (xs : List Nat) {j : Nat} (h : j < xs.length) : (xs.map f).getD j 0 = f (xs.getD j 0) := by
  simp [List.getD_eq_getElem?_getD, List.getElem?_map, List.getElem?_eq_getElem h]
theorem Tst_nil {f : Nat → Int32} : Tst f [] := fun i hi => absurd hi (by simp)
/-- one clause with code, its last step c -/
theorem look_cl {n : Nat} {fc : Nat → Int32} {fr mn : Nat} {s : Nat → Int32} (hfm : fr + mn ≤ 890) {cs : List Nat} {pos k : Nat} {I I' : Nat → Int32} {R : Nat → Nat → Int32} {c : Int32} (hR : R 1 = s) (hw : wf cs 0 1) (hm : ∀ j, j < cs.length → s (pos + j) = kM (cs.getD j 0)) (hc : s (pos + cs.length) = c) (hp : pos + cs.length + 1 ≤ fr + mn) (hf : ∀ j, j < 6 → R 9 j = fc j) (hB : ∀ R', R' 10 0 = b2i (holdsS fc cs) → mBody c (nI 1) I R' = some (nI 0, I', R')) :
    ∃ R', l_Md_looks_152 n (nI mn) (nI fr) (k + 1 + cs.length) (nI 0) (nI pos) I R = l_Md_looks_152 n (nI mn) (nI fr) k (nI 0) (nI (pos + cs.length + 1)) I' R' ∧ ∀ q, q ≠ 10 → R' q = R q := by
  obtain ⟨R1, h1, h2, h3⟩ := look_run (n := n) (fc := fc) hfm cs pos (k + 1) [] 1 I R hR hw (by simp) hm (by omega) Tst_nil hf
  refine ⟨R1, ?_, h3⟩
  have hl := ev_len (fc := fc) cs [] 1 hw
  have h0 : R1 10 0 = b2i (holdsS fc cs) := by
    unfold holdsS
    rcases he : ev fc cs [] with _ | ⟨b, r⟩
    · rw [he] at hl; simp at hl
    · rw [he] at hl h2
      have hr : r = [] := by cases r with | nil => rfl | cons _ _ => simp at hl
      subst hr
      exact Tst_hd h2
  rw [show nI 0 = nI ([] : List Bool).length from rfl, h1, mBody_eq, nI_add, if_neg (nI_ge (by omega) (by omega)), if_pos (nI_in (by omega) (by omega)), nI_clamp (n := pos + cs.length) (by omega), h3 1 (by decide), hR, hc, hB R1 h0]
  show l_Md_looks_152 n (nI mn) (nI fr) k (nI 0) (nI (pos + cs.length) + 1) I' R1 = _
  rw [nI_1]
  rfl
theorem look_list {n : Nat} {fc : Nat → Int32} {fr mn : Nat} {s : Nat → Int32} (hfm : fr + mn ≤ 890) :
    ∀ (L : List Cls) (pos k : Nat) (I : Nat → Int32) (R : Nat → Nat → Int32) (br : Bool) (sl : Nat), (∀ c ∈ L, clOK c) → R 1 = s → (∀ j, j < (stp L).length → s (pos + j) = (stp L).getD j 0) → pos + (stp L).length = fr + mn → (stp L).length < k → (∀ j, j < 6 → R 9 j = fc j) → I 11 = nI sl → I 12 = b2i br →
    ∃ I' R', l_Md_looks_152 n (nI mn) (nI fr) k (nI 0) (nI pos) I R = some (I', R') ∧ I' 11 = nI (sl + slw fc L) ∧ I' 12 = b2i (br || brr fc L) ∧ (∀ q, q ≠ 11 → q ≠ 12 → I' q = I q) ∧ ∀ q, q ≠ 10 → R' q = R q
  | [], pos, k, I, R, br, sl, hok, hR, hm, hp, hk, hf, h11, h12 => by
    cases k with
    | zero => simp at hk
    | succ k =>
      refine ⟨I, R, ?_, ?_, ?_, fun _ _ _ => rfl, fun _ _ => rfl⟩
      · simp only [stp, List.flatMap_nil, List.length_nil, Nat.add_zero] at hp
        rw [mBody_eq, nI_add, if_pos (nI_le (by omega) (by omega))]
      · simp only [slw, Nat.add_zero]; exact h11
      · simp only [brr, Bool.or_false]; exact h12
  | c :: L, pos, k, I, R, br, sl, hok, hR, hm, hp, hk, hf, h11, h12 => by
    have hokL : ∀ c ∈ L, clOK c := fun c hc => hok c (List.mem_cons_of_mem _ hc)
    obtain ⟨w, x, cs⟩ := c
    obtain ⟨o1, o2, o3, o4⟩ := hok _ List.mem_cons_self
    have es : stp ((w, x, cs) :: L) = stp1 (w, x, cs) ++ stp L := by simp only [stp, List.flatMap_cons]
    rw [es] at hm hp hk
    rw [List.length_append] at hm hp hk
    have go : ∀ (c : Int32) (I' : Nat → Int32) (sl' : Nat) (br' : Bool), stp1 (w, x, cs) = cs.map kM ++ [c] → wf cs 0 1 → (∀ R', R' 10 0 = b2i (holdsS fc cs) → mBody c (nI 1) I R' = some (nI 0, I', R')) → I' 11 = nI (sl + sl') → I' 12 = b2i (br || br') → (∀ q, q ≠ 11 → q ≠ 12 → I' q = I q) → slw fc ((w, x, cs) :: L) = sl' + slw fc L → brr fc ((w, x, cs) :: L) = (br' || brr fc L) →
        ∃ I' R', l_Md_looks_152 n (nI mn) (nI fr) k (nI 0) (nI pos) I R = some (I', R') ∧ I' 11 = nI (sl + slw fc ((w, x, cs) :: L)) ∧ I' 12 = b2i (br || brr fc ((w, x, cs) :: L)) ∧ (∀ q, q ≠ 11 → q ≠ 12 → I' q = I q) ∧ ∀ q, q ≠ 10 → R' q = R q := by
      intro c I' sl' br' e hw hB i1 i2 i3 i4 i5
      rw [e] at hm hp hk
      simp only [List.length_append, List.length_map, List.length_cons, List.length_nil, Nat.zero_add] at hm hp hk
      obtain ⟨k2, rfl⟩ : ∃ k2, k = k2 + 1 + cs.length := ⟨k - 1 - cs.length, by omega⟩
      obtain ⟨R1, h1, h2⟩ := look_cl (n := n) (fc := fc) (k := k2) hfm (pos := pos) hR hw (fun j hj => by
        rw [hm j (by omega), gD_l _ _ (by simp; omega), gD_l _ _ (by simp; omega), gD_m kM cs hj]) (by
        rw [hm cs.length (by omega), gD_l _ _ (by simp)]
        have := gD_r (cs.map kM) [c] 0
        rw [List.length_map, Nat.add_zero] at this
        rw [this]; rfl) (by omega) hf hB
      obtain ⟨I2, R2, a1, a2, a3, a4, a5⟩ := look_list (n := n) (fc := fc) hfm L (pos + cs.length + 1) k2 I' R1 (br || br') (sl + sl') hokL (by rw [h2 1 (by decide), hR]) (fun j hj => by
        have := hm (cs.length + 1 + j) (by omega)
        rw [show pos + (cs.length + 1 + j) = pos + cs.length + 1 + j by omega] at this
        rw [this]
        have h9 := gD_r (cs.map kM ++ [c]) (stp L) j
        simp only [List.length_append, List.length_map, List.length_cons, List.length_nil, Nat.zero_add] at h9
        exact h9) (by omega) (by omega) (fun j hj => by rw [h2 9 (by decide)]; exact hf j hj) i1 i2
      refine ⟨I2, R2, by rw [h1]; exact a1, by rw [a2, i4]; congr 1; omega, by rw [a3, i5, Bool.or_assoc], fun q h11 h12 => by rw [a4 q h11 h12, i3 q h11 h12], fun q hq => by rw [a5 q hq, h2 q hq]⟩
    by_cases hw0 : w = 0
    · subst hw0
      refine go ((-10) - nI x) _ (if holdsS fc cs = true then x else 0) false (by simp [stp1]) (o3 (by show (0 : Nat) < 2; omega)) (fun R' h0 => mB_s o2 h0 h12) ?_ ?_ ?_ ?_ ?_
      · rw [pk_un (by decide), pk_us, h11]
        split
        · rw [nI_add]
        · rw [Int32.add_zero, Nat.add_zero]
      · rw [pk_us, Bool.or_false]
      · intro q q1 q2
        rw [pk_un q2, pk_un q1]
      · simp [slw]
      · simp [brr]
    · by_cases hw1 : w = 1
      · subst hw1
        refine go (-200) _ 0 (holdsS fc cs) (by simp [stp1]) (o3 (by show (1 : Nat) < 2; omega)) (fun R' h0 => mB_b h0 h12) ?_ ?_ ?_ ?_ ?_
        · rw [pk_un (by decide), pk_us, h11, Int32.add_zero, Nat.add_zero]
        · rw [pk_us]
        · intro q q1 q2
          rw [pk_un q2, pk_un q1]
        · simp [slw]
        · simp [brr]
      · have e : stp1 (w, x, cs) = [] := by simp only [stp1, if_neg hw0, if_neg hw1]
        rw [e] at hm hp hk
        simp only [List.length_nil, Nat.zero_add, List.nil_append] at hm hp hk
        obtain ⟨I2, R2, a1, a2, a3, a4, a5⟩ := look_list (n := n) (fc := fc) hfm L pos k I R br sl hokL hR hm hp hk hf h11 h12
        exact ⟨I2, R2, a1, by rw [a2]; simp [slw, hw0], by rw [a3]; simp [brr, hw1], a4, a5⟩
/-- the least other, of the c highest places -/
def qd (p a : Nat) : Nat → Nat
  | 0 => 9
  | c + 1 => if 5 - c ≠ p ∧ bt a (5 - c) = true then 5 - c else qd p a c
def fcs (s : Nat → Int32) (p a w : Nat) : Nat → Int32 := fun k => if k = 0 then nI p else if k = 1 then s (10 + p) else if k = 2 then s (28 + p) else if k = 3 then nI (pop a) else if k = 4 then nI w else nI (qd p a 6)
/-- the night that the model holds -/
def NgM (s : Nat → Int32) (L : List Cls) : Prop := (∀ c ∈ L, clOK c) ∧ L.length ≤ 10 ∧ ((s 5 = (-1) ∧ L = []) ∨ ∃ act, act < 5 ∧ s 5 = nI act ∧ s (185 + act) = nI (stp L).length ∧ (stp L).length ≤ 140 ∧ ∀ j, j < (stp L).length → s (190 + 140 * act + j) = (stp L).getD j 0)
theorem q_m1s (i : Nat) : nI i + (-1) = nI i - 1 := Int32.add_neg_eq_sub
theorem looks65 {n p a : Nat} {I : Nat → Int32} {R0 : Nat → Nat → Int32} (hp : p < 6) (ha : a < 64) (hn : 7 ≤ n) (h5 : R0 9 5 = 9) : ∃ R', l_Md_looks_65 n (nI p) (nI a) n 5 I R0 = some (I, R') ∧ (∀ q, q ≠ 9 → R' q = R0 q) ∧ R' 9 5 = nI (qd p a 6) ∧ ∀ j, j ≠ 5 → R' 9 j = R0 9 j := by
  obtain ⟨z, h1, h2, h3⟩ := q_lp (fun k c (R : Nat → Nat → Int32) => l_Md_looks_65 n (nI p) (nI a) k (nI (6 - c) - 1) I R) 6 (fun c R => (∀ q, q ≠ 9 → R q = R0 q) ∧ R 9 5 = nI (qd p a c) ∧ ∀ j, j ≠ 5 → R 9 j = R0 9 j) (fun z => z.1 = I ∧ ((∀ q, q ≠ 9 → z.2 q = R0 q) ∧ z.2 9 5 = nI (qd p a 6) ∧ ∀ j, j ≠ 5 → z.2 9 j = R0 9 j)) (fun k R hR => ⟨(I, R), rfl, rfl, hR⟩) (fun k c R hc hR => by
    obtain ⟨r1, r2, r3⟩ := hR
    refine ⟨upR R 9 5 (nI (qd p a (c + 1))), ?_, fun q hq => by rw [q_upN hq, r1 q hq], by rw [q_upS, pk_us], fun j hj => by rw [q_upS, pk_un hj, r3 j hj]⟩
    show l_Md_looks_65 n (nI p) (nI a) (k + 1) (nI (6 - c) - 1) I R = l_Md_looks_65 n (nI p) (nI a) k (nI (6 - (c + 1)) - 1) I _
    rw [show 6 - c = (5 - c) + 1 by omega, nI_pred, show 6 - (c + 1) = 5 - c by omega]
    show (if nI (5 - c) < 0 then _ else ((if nI (5 - c) = nI p then some (R 9 5) else (if ((nI a >>> (nI (5 - c) &&& 31)) &&& 1) = 1 then some (nI (5 - c)) else some (R 9 5)) : Option Int32)).bind fun x6 => l_Md_looks_65 n (nI p) (nI a) k (nI (5 - c) + (-1)) I (upR R 9 5 x6)) = _
    rw [if_neg (nI_pos (by omega)), q_m1s]
    have hv : (if nI (5 - c) = nI p then some (R 9 5) else (if ((nI a >>> (nI (5 - c) &&& 31)) &&& 1) = 1 then some (nI (5 - c)) else some (R 9 5)) : Option Int32) = some (nI (qd p a (c + 1))) := by
      by_cases e1 : 5 - c = p
      · rw [if_pos (by rw [e1]), r2]
        simp only [qd, e1, ne_eq, not_true, false_and, if_false]
      · rw [if_neg (fun h => e1 ((nI_eq (by omega) (by omega)).mp h))]
        by_cases e2 : bt a (5 - c) = true
        · rw [if_pos ((q_bit1 a ha (5 - c) (by omega)).mpr e2)]
          simp only [qd, ne_eq, e1, not_false_iff, e2, and_self, if_true]
        · rw [if_neg (fun h => e2 ((q_bit1 a ha (5 - c) (by omega)).mp h)), r2]
          simp only [qd, e2, and_false, if_false, Bool.false_eq_true]
    rw [hv]
    rfl) 0 R0 n (by omega) (by omega) ⟨fun _ _ => rfl, h5, fun _ _ => rfl⟩
  obtain ⟨z1, z2⟩ := z
  exact ⟨z2, by rw [show (5 : Int32) = nI (6 - 0) - 1 by decide, h1, show z1 = I from h2], h3⟩
theorem looksM {n p a w : Nat} {s : Nat → Int32} {L : List Cls} {I : Nat → Int32} {R : Nat → Nat → Int32} (hn : 1000 ≤ n) (hL : NgM s L) (hs : R 1 = s) (hp : p < 6) (ha : a < 64) :
    ∃ I' R', p_Md_looks n (nI p) (nI a) (nI w) I R = some (I', R') ∧ I' 11 = nI (slw (fcs s p a w) L) ∧ I' 12 = b2i (brr (fcs s p a w) L) ∧ (∀ q, q ≠ 11 → q ≠ 12 → I' q = I q) ∧ ∀ q, q ≠ 9 → q ≠ 10 → R' q = R q := by
  unfold p_Md_looks
  have e10 : (10 : Int32) + nI p = nI (10 + p) := nI_add 10 p
  have e28 : (28 : Int32) + nI p = nI (28 + p) := nI_add 28 p
  rw [e10, e28, if_pos (nI_in (by omega) (by omega)), if_pos (nI_in (by omega) (by omega)), q_popM n a (by omega) ha, nI_clamp (by omega), nI_clamp (by omega), Option.bind_some]
  generalize hR0 : (upR (upR (upR (upR (upR (upR R 9 0 (nI p)) 9 1 (((upR R 9 0 (nI p)) 1 (10 + p)))) 9 2 ((((upR (upR R 9 0 (nI p)) 9 1 (((upR R 9 0 (nI p)) 1 (10 + p))))) 1 (28 + p)))) 9 3 (nI (pop a))) 9 4 (nI w)) 9 5 9) = R0
  have r0 : ∀ q, q ≠ 9 → R0 q = R q := fun q hq => by rw [← hR0]; simp only [q_upN hq]
  have r1 : R0 9 0 = nI p ∧ R0 9 1 = s (10 + p) ∧ R0 9 2 = s (28 + p) ∧ R0 9 3 = nI (pop a) ∧ R0 9 4 = nI w ∧ R0 9 5 = 9 := by
    rw [← hR0, ← hs]
    simp only [q_upS, q_upN (show (1 : Nat) ≠ 9 by decide), upd]
    refine ⟨?_, ?_, ?_, ?_, ?_, ?_⟩ <;> simp
  obtain ⟨R1, h1, h2, h3, h4⟩ := looks65 (n := n) (I := I) hp ha (by omega) r1.2.2.2.2.2
  show ∃ I' R', (l_Md_looks_65 n (nI p) (nI a) n 5 I R0).bind _ = _ ∧ _
  rw [h1]
  show ∃ I' R', (p_Md_tellsOf n 185 0 (upd (upd I 11 0) 12 0) R1).bind _ = _ ∧ _
  have hs1 : R1 1 = s := by rw [h2 1 (by decide), r0 1 (by decide), hs]
  have hfc : ∀ j, j < 6 → R1 9 j = fcs s p a w j := fun j hj => by
    rcases (by omega : j = 0 ∨ j = 1 ∨ j = 2 ∨ j = 3 ∨ j = 4 ∨ j = 5) with rfl | rfl | rfl | rfl | rfl | rfl
    · rw [h4 0 (by decide), r1.1]; rfl
    · rw [h4 1 (by decide), r1.2.1]; rfl
    · rw [h4 2 (by decide), r1.2.2.1]; rfl
    · rw [h4 3 (by decide), r1.2.2.2.1]; rfl
    · rw [h4 4 (by decide), r1.2.2.2.2.1]; rfl
    · rw [h3]; rfl
  have fin : ∀ fr mn : Nat, fr + mn ≤ 890 → mn = (stp L).length → mn ≤ 140 → (∀ j, j < (stp L).length → s (fr + j) = (stp L).getD j 0) → ∃ I' R', (l_Md_looks_152 n (nI mn) (nI fr) n 0 (nI fr) (upd (upd I 11 0) 12 0) R1).bind (fun (x : (Nat → Int32) × (Nat → Nat → Int32)) => some (x.1, x.2)) = some (I', R') ∧ I' 11 = nI (slw (fcs s p a w) L) ∧ I' 12 = b2i (brr (fcs s p a w) L) ∧ (∀ q, q ≠ 11 → q ≠ 12 → I' q = I q) ∧ ∀ q, q ≠ 9 → q ≠ 10 → R' q = R q := by
    intro fr mn hfm hmn hmn2 hm
    obtain ⟨I2, R2, a1, a2, a3, a4, a5⟩ := look_list (n := n) (fc := fcs s p a w) (mn := mn) hfm L fr n (upd (upd I 11 0) 12 0) R1 false 0 hL.1 hs1 hm (by omega) (by omega) hfc rfl rfl
    refine ⟨I2, R2, by rw [show l_Md_looks_152 n (nI mn) (nI fr) n 0 (nI fr) (upd (upd I 11 0) 12 0) R1 = some (I2, R2) from a1]; rfl, by rw [a2, Nat.zero_add], by rw [a3, Bool.false_or], fun q q1 q2 => by rw [a4 q q1 q2, pk_un q2, pk_un q1], fun q q1 q2 => by rw [a5 q q2, h2 q q1, r0 q q1]⟩
  rw [hs1]
  rcases hL.2.2 with ⟨b1, b2⟩ | ⟨act, b1, b2, b3, b4, b5⟩
  · have et : p_Md_tellsOf n 185 0 (upd (upd I 11 0) 12 0) R1 = some (nI 0) := by
      unfold p_Md_tellsOf
      rw [hs1, b1]; rfl
    have ef : (190 : Int32) + 140 * (s 5) = nI 50 := by rw [b1]; decide
    rw [et, ef]
    exact fin 50 0 (by omega) (by rw [b2]; rfl) (by omega) (fun j hj => by rw [b2] at hj; exact absurd hj (by simp [stp]))
  · have et : p_Md_tellsOf n 185 0 (upd (upd I 11 0) 12 0) R1 = some (nI (stp L).length) := by
      unfold p_Md_tellsOf
      rw [hs1, b2, if_neg (fun e => nI_pos (n := act) (by omega) (by rw [e]; decide)), show (185 : Int32) + nI act = nI (185 + act) from nI_add 185 act, if_pos (nI_in (by omega) (by omega)), nI_clamp (by omega), b3]; rfl
    have ef : (190 : Int32) + 140 * (s 5) = nI (190 + 140 * act) := by
      rw [b2, show (140 : Int32) * nI act = nI (140 * act) from pk_mul 140 act]; exact nI_add 190 (140 * act)
    rw [et, ef]
    exact fin (190 + 140 * act) (stp L).length (by omega) rfl b4 b5
