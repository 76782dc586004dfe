/-! ===== steps: span, chance ===== -/
def gO (A C : Nat → Nat) (p : Nat) : Nat → Nat
  | 0 => 99
  | j + 1 => if bt (A j) p = true then min (gO A C p j) (C j) else gO A C p j
theorem gO_le {A C : Nat → Nat} {p : Nat} : ∀ r, gO A C p r ≤ 99
  | 0 => Nat.le_refl _
  | r + 1 => by
    have := gO_le (A := A) (C := C) (p := p) r
    simp only [gO]
    split <;> omega
def RwN (rs rm s : Nat → Int32) (m r : Nat) (A C : Nat → Nat) : Prop := ∀ j, j < r → A j < 2 ^ m ∧ C j ≤ 99 ∧ rs j = nI (A j) ∧ s (34 + j) = nI (A j) ∧ rm j = nI (C j) ∧ s (46 + j) = nI (C j)
theorem RwN_of {rs rm bk tp s : Nat → Int32} {m r b t : Nat} (hm : m ≤ 6) (h : Rws rs rm bk tp s m r b t) : RwN rs rm s m r (fun j => (s (34 + j)).toNatClampNeg) (fun j => (s (46 + j)).toNatClampNeg) := by
  intro j hj
  obtain ⟨a, c, h1, h2, h3, h4, h5, h6, h7, h8⟩ := h.1 j hj
  have := isS_lt hm h2
  dsimp only
  rw [h6, h8, nI_clamp (by omega), nI_clamp (by omega)]
  exact ⟨h2, h4, h5, rfl, h7, rfl⟩
theorem grC {n m r p : Nat} {A C : Nat → Nat} {s : Nat → Int32} {E : PE} {F G : Nat → Nat → Int32} {P : Nat → Nat → Option Nat} {N : Nat → Nat} (hn : 1000 ≤ n) (hm : m ≤ 6) (hr : r ≤ 12) (hp : p < 6) (f12 : F 1 12 = nI r) (h : RwN (G 11) (G 13) s m r A C) : p_St_greatestOwn n E F G P N (nI p) = some (nI (gO A C p r)) := by
  have e := q_lpf (fun k i (v : Int32) => l_St_greatestOwn_5 n E F G P N (nI p) k v (nI i)) r (fun i => nI (gO A C p i)) (nI (gO A C p r)) (fun k => by
    show l_St_greatestOwn_5 n E F G P N (nI p) (k + 1) _ (nI r) = _
    rw [l_St_greatestOwn_5, f12, if_pos (Int32.le_refl _)]) (fun k i hi => by
    obtain ⟨h1, h2, h3, h4, h5, h6⟩ := h i hi
    have hA := isS_lt hm h1
    have hx : ix (nI i) 12 := nI_in (by omega) (by omega)
    have hg := gO_le (A := A) (C := C) (p := p) i
    show l_St_greatestOwn_5 n E F G P N (nI p) (k + 1) (nI (gO A C p i)) (nI i) = l_St_greatestOwn_5 n E F G P N (nI p) k (nI (gO A C p (i + 1))) (nI (i + 1))
    rw [l_St_greatestOwn_5, f12, if_neg (nI_ge hi (by omega)), if_pos hx, if_pos hx, nI_clamp (by omega), h3, h5, nI_1, jmn (by omega) (by omega)]
    simp only [gO]
    by_cases hb : bt (A i) p = true
    · rw [if_pos ((q_bit1 _ hA p (by omega)).mpr hb), if_pos hb]; rfl
    · rw [if_neg (fun q => hb ((q_bit1 _ hA p (by omega)).mp q)), if_neg hb]; rfl) 0 n (by omega) (by omega)
  unfold p_St_greatestOwn
  rw [show l_St_greatestOwn_5 n E F G P N (nI p) n 99 0 = some (nI (gO A C p r)) from e]
  rfl
theorem moM {n m r p : Nat} {A C : Nat → Nat} {rs rm : Nat → Int32} {I : Nat → Int32} {R : Nat → Nat → Int32} (hn : 1000 ≤ n) (hm : m ≤ 6) (hr : r ≤ 12) (hp : p < 6) (h2 : R 1 2 = nI r) (h : RwN rs rm (R 1) m r A C) : p_Md_mostOf n (nI p) I R = some (nI (gO A C p r)) := by
  have e := q_lpf (fun k i (v : Int32) => l_Md_mostOf_5 n (nI p) I R k v (nI i)) r (fun i => nI (gO A C p i)) (nI (gO A C p r)) (fun k => by
    show l_Md_mostOf_5 n (nI p) I R (k + 1) _ (nI r) = _
    rw [l_Md_mostOf_5, h2, if_pos (Int32.le_refl _)]) (fun k i hi => by
    obtain ⟨h1, h2', h3, h4, h5, h6⟩ := h i hi
    have hA := isS_lt hm h1
    have hx : ix (nI (34 + i)) 890 := nI_in (by omega) (by omega)
    have hy : ix (nI (46 + i)) 890 := nI_in (by omega) (by omega)
    have hg := gO_le (A := A) (C := C) (p := p) i
    show l_Md_mostOf_5 n (nI p) I R (k + 1) (nI (gO A C p i)) (nI i) = l_Md_mostOf_5 n (nI p) I R k (nI (gO A C p (i + 1))) (nI (i + 1))
    rw [l_Md_mostOf_5, h2, if_neg (nI_ge hi (by omega)), show (34 : Int32) + nI i = nI (34 + i) from nI_add 34 i, show (46 : Int32) + nI i = nI (46 + i) from nI_add 46 i, if_pos hx, if_pos hy, if_pos hy, nI_clamp (by omega), nI_clamp (by omega), h4, h6, nI_1]
    simp only [gO]
    by_cases hb : bt (A i) p = true
    · rw [if_pos ((q_bit1 _ hA p (by omega)).mpr hb), if_pos hb]
      by_cases hle : gO A C p i ≤ C i
      · rw [if_pos (nI_le hle (by omega)), Nat.min_eq_left hle]; rfl
      · rw [if_neg (nI_ge (by omega) (by omega)), Nat.min_eq_right (by omega)]; rfl
    · rw [if_neg (fun q => hb ((q_bit1 _ hA p (by omega)).mp q)), if_neg hb]; rfl) 0 n (by omega) (by omega)
  unfold p_Md_mostOf
  rw [show l_Md_mostOf_5 n (nI p) I R n 99 0 = some (nI (gO A C p r)) from e]
  rfl
def qQ (A C : Nat → Nat) (r j i : Nat) : Bool := bt (A j) i && decide (gO A C i r = C j)
theorem q_wo : ∀ a, a < 64 → ∀ i, i < 6 → ∀ p, p < 7 → (((nI a &&& (1 <<< (nI i &&& 31))) &&& (nI (if p = 6 then 0 else 2 ^ p) ^^^ (-1))) = 0 ↔ (bt a i && decide (i ≠ p)) = false) := by decide +kernel
/-- p 6: nobody -/
theorem agC {n m r p : Nat} {A C : Nat → Nat} {s : Nat → Int32} {E : PE} {F G : Nat → Nat → Int32} {P : Nat → Nat → Option Nat} {N : Nat → Nat} (hn : 1000 ≤ n) (hm : m ≤ 6) (hr : r ≤ 12) (hp : p < 7) (f5 : F 1 5 = nI m) (f12 : F 1 12 = nI r) (h : RwN (G 11) (G 13) s m r A C) : p_St_rowsAgree n E F G P N (nI (if p = 6 then 0 else 2 ^ p)) = some (b2i ((List.range r).all (fun j => (List.range m).any (fun i => decide (i ≠ p) && qQ A C r j i)))) := by
  have inner : ∀ j, j < r → l_St_rowsAgree_15 n E F G P N (nI (if p = 6 then 0 else 2 ^ p)) (nI j) n 0 0 = some (b2i ((List.range m).any (fun i => decide (i ≠ p) && qQ A C r j i))) := by
    intro j hj
    obtain ⟨h1, h2, h3, h4, h5, h6⟩ := h j hj
    have hA := isS_lt hm h1
    have hx : ix (nI j) 12 := nI_in (by omega) (by omega)
    have e := q_lpf (fun k i (v : Int32) => l_St_rowsAgree_15 n E F G P N (nI (if p = 6 then 0 else 2 ^ p)) (nI j) k v (nI i)) m (fun i => b2i ((List.range i).any (fun i => decide (i ≠ p) && qQ A C r j i))) (b2i ((List.range m).any (fun i => decide (i ≠ p) && qQ A C r j i))) (fun k => by
      show l_St_rowsAgree_15 n E F G P N (nI (if p = 6 then 0 else 2 ^ p)) (nI j) (k + 1) _ (nI m) = _
      rw [l_St_rowsAgree_15, f5, if_pos (Int32.le_refl _)]) (fun k i hi => by
      show l_St_rowsAgree_15 n E F G P N (nI (if p = 6 then 0 else 2 ^ p)) (nI j) (k + 1) (b2i ((List.range i).any (fun i => decide (i ≠ p) && qQ A C r j i))) (nI i) = l_St_rowsAgree_15 n E F G P N (nI (if p = 6 then 0 else 2 ^ p)) (nI j) k (b2i ((List.range (i + 1)).any (fun i => decide (i ≠ p) && qQ A C r j i))) (nI (i + 1))
      have hg := gO_le (A := A) (C := C) (p := i) r
      rw [l_St_rowsAgree_15, f5, if_neg (nI_ge hi (by omega)), if_pos hx, grC hn hm hr (by omega) f12 h, Option.bind_some, if_pos hx, nI_clamp (by omega), h3, h5, nI_1, any_s]
      have hw := q_wo (A j) hA i (by omega) p hp
      cases hc : (bt (A j) i && decide (i ≠ p))
      · rw [if_pos (hw.mpr hc)]
        have : (decide (i ≠ p) && qQ A C r j i) = false := by
          unfold qQ
          cases hb : bt (A j) i
          · simp
          · rw [hb, Bool.true_and] at hc; rw [hc]; rfl
        rw [this, Bool.or_false]
        rfl
      · rw [if_neg (fun q => by rw [hw.mp q] at hc; exact absurd hc (by decide))]
        simp only [Bool.and_eq_true] at hc
        have : (decide (i ≠ p) && qQ A C r j i) = decide (gO A C i r = C j) := by
          unfold qQ
          rw [hc.1, hc.2]; simp
        rw [this]
        by_cases hq : gO A C i r = C j
        · rw [if_pos (show nI (gO A C i r) = nI (C j) by rw [hq]), decide_eq_true hq, Bool.or_true]; rfl
        · rw [if_neg (show ¬ nI (gO A C i r) = nI (C j) from fun q => hq ((nI_eq (by omega) (by omega)).mp q)), decide_eq_false hq, Bool.or_false]; rfl) 0 n (by omega) (by omega)
    exact e
  obtain ⟨z, e, hz⟩ := q_lpr (fun k j (_ : Unit) => l_St_rowsAgree_2 n E F G P N (nI (if p = 6 then 0 else 2 ^ p)) k (nI j)) r (fun j _ => (List.range j).all (fun j => (List.range m).any (fun i => decide (i ≠ p) && qQ A C r j i)) = true) (fun z => z = b2i ((List.range r).all (fun j => (List.range m).any (fun i => decide (i ≠ p) && qQ A C r j i)))) (fun k _ hb => by
      refine ⟨1, ?_, by rw [hb]; rfl⟩
      show l_St_rowsAgree_2 n E F G P N (nI (if p = 6 then 0 else 2 ^ p)) (k + 1) (nI r) = _
      rw [l_St_rowsAgree_2, f12, if_pos (Int32.le_refl _)]) (fun k j _ hj hb => by
      show (∃ _ : Unit, l_St_rowsAgree_2 n E F G P N (nI (if p = 6 then 0 else 2 ^ p)) (k + 1) (nI j) = l_St_rowsAgree_2 n E F G P N (nI (if p = 6 then 0 else 2 ^ p)) k (nI (j + 1)) ∧ _) ∨ (∃ z, l_St_rowsAgree_2 n E F G P N (nI (if p = 6 then 0 else 2 ^ p)) (k + 1) (nI j) = some z ∧ _)
      rw [l_St_rowsAgree_2, f12, if_neg (nI_ge hj (by omega)), inner j hj, Option.bind_some, nI_1]
      cases hc : (List.range m).any (fun i => decide (i ≠ p) && qQ A C r j i)
      · rw [if_pos (show b2i false = 0 from rfl)]
        refine Or.inr ⟨0, rfl, ?_⟩
        have : (List.range r).all (fun j => (List.range m).any (fun i => decide (i ≠ p) && qQ A C r j i)) = false := by
          rw [List.all_eq_false]
          exact ⟨j, List.mem_range.mpr hj, by rw [hc]; decide⟩
        rw [this]; rfl
      · rw [if_neg (show ¬ b2i true = 0 by decide)]
        refine Or.inl ⟨(), rfl, ?_⟩
        rw [List.range_succ, List.all_append, hb, Bool.true_and, List.all_cons, List.all_nil, hc]; rfl) 0 () n (by omega) (by omega) (by simp)
  unfold p_St_rowsAgree
  rw [show l_St_rowsAgree_2 n E F G P N (nI (if p = 6 then 0 else 2 ^ p)) n 0 = some z from e, hz]
def mkS (A C : Nat → Nat) (r j : Nat) : Nat → Nat
  | 0 => 0
  | i + 1 => mkS A C r j i ||| (if qQ A C r j i = true then 2 ^ i else 0)
theorem mkS_lt {A C : Nat → Nat} {r j : Nat} : ∀ i, i ≤ 6 → mkS A C r j i < 64
  | 0, _ => by simp [mkS]
  | i + 1, h => by
    have h1 := mkS_lt (A := A) (C := C) (r := r) (j := j) i (by omega)
    simp only [mkS]
    refine q_or64 _ h1 _ ?_
    split
    · exact q_pw i (by omega)
    · omega
theorem mkS_b {A C : Nat → Nat} {r j : Nat} : ∀ i q, bt (mkS A C r j i) q = (decide (q < i) && qQ A C r j q)
  | 0, q => by simp [mkS, bt]
  | i + 1, q => by
    have ih := mkS_b (A := A) (C := C) (r := r) (j := j) i q
    unfold bt at ih
    simp only [mkS, bt]
    rw [Nat.testBit_or, ih]
    by_cases e : q = i
    · subst e
      rw [decide_eq_false (Nat.lt_irrefl _), decide_eq_true (show q < q + 1 by omega)]
      cases hq : qQ A C r j q
      · rw [if_neg (by decide), Nat.zero_testBit]; rfl
      · rw [if_pos rfl, Nat.testBit_two_pow_self]; rfl
    · have h2 : (if qQ A C r j i = true then 2 ^ i else 0).testBit q = false := by
        split
        · rw [Nat.testBit_two_pow]; exact decide_eq_false (fun h => e h.symm)
        · exact Nat.zero_testBit q
      rw [h2, Bool.or_false]
      by_cases e2 : q < i
      · rw [decide_eq_true e2, decide_eq_true (show q < i + 1 by omega)]
      · rw [decide_eq_false e2, decide_eq_false (show ¬ q < i + 1 by omega)]
theorem mkM {n m r j : Nat} {A C : Nat → Nat} {rs rm : Nat → Int32} {I : Nat → Int32} {R : Nat → Nat → Int32} (hn : 1000 ≤ n) (hm : m ≤ 6) (hr : r ≤ 12) (hj : j < r) (h2 : R 1 2 = nI r) (h : RwN rs rm (R 1) m r A C) : p_Md_makersOf n (nI j) I R = some (nI (mkS A C r j 6)) := by
  obtain ⟨h1, h2', h3, h4, h5, h6⟩ := h j hj
  have hA := isS_lt hm h1
  have hx : ix (nI (34 + j)) 890 := nI_in (by omega) (by omega)
  have hy : ix (nI (46 + j)) 890 := nI_in (by omega) (by omega)
  have e := q_lpf (fun k i (v : Int32) => l_Md_makersOf_4 n (nI j) I R k v (nI i)) 6 (fun i => nI (mkS A C r j i)) (nI (mkS A C r j 6)) (fun k => by
    show l_Md_makersOf_4 n (nI j) I R (k + 1) _ (nI 6) = _
    rw [l_Md_makersOf_4, if_pos (show (6 : Int32) ≤ nI 6 by decide)]) (fun k i hi => by
    show l_Md_makersOf_4 n (nI j) I R (k + 1) (nI (mkS A C r j i)) (nI i) = l_Md_makersOf_4 n (nI j) I R k (nI (mkS A C r j (i + 1))) (nI (i + 1))
    have hg := gO_le (A := A) (C := C) (p := i) r
    rw [l_Md_makersOf_4, if_neg (show ¬ (6 : Int32) ≤ nI i from nI_ge (b := 6) hi (by omega)), show (34 : Int32) + nI j = nI (34 + j) from nI_add 34 j, show (46 : Int32) + nI j = nI (46 + j) from nI_add 46 j, if_pos hx, moM hn hm hr hi h2 h, Option.bind_some, if_pos hy, nI_clamp (by omega), nI_clamp (by omega), h4, h6, nI_1, q_one i (by omega)]
    have ex : (if ((nI (A j) >>> (nI i &&& 31)) &&& 1) = 1 then (if nI (gO A C i r) = nI (C j) then some (nI (2 ^ i)) else some 0) else some 0 : Option Int32) = some (nI (if qQ A C r j i = true then 2 ^ i else 0)) := by
      unfold qQ
      by_cases hb : bt (A j) i = true
      · rw [if_pos ((q_bit1 _ hA i (by omega)).mpr hb), hb, Bool.true_and]
        by_cases hq : gO A C i r = C j
        · rw [if_pos (show nI (gO A C i r) = nI (C j) by rw [hq]), decide_eq_true hq]; rfl
        · rw [if_neg (show ¬ nI (gO A C i r) = nI (C j) from fun q => hq ((nI_eq (by omega) (by omega)).mp q)), decide_eq_false hq]; rfl
      · rw [if_neg (fun q => hb ((q_bit1 _ hA i (by omega)).mp q)), Bool.eq_false_iff.mpr hb]; rfl
    rw [ex, Option.bind_some, q_or _ (mkS_lt i (by omega)) _ (by split; exact q_pw i hi; omega)]
    rfl) 0 n (by omega) (by omega)
  unfold p_Md_makersOf
  rw [show l_Md_makersOf_4 n (nI j) I R n 0 0 = some (nI (mkS A C r j 6)) from e]
  rfl
theorem all_any {r : Nat} {f g : Nat → Bool} (h : ∀ j, j < r → f j = !g j) : (List.range r).all f = !(List.range r).any g := by
  cases hc : (List.range r).any g
  · rw [List.any_eq_false] at hc
    show _ = true
    rw [List.all_eq_true]
    intro j hj
    have := hc j hj
    rw [h j (List.mem_range.mp hj), Bool.eq_false_iff.mpr this]; rfl
  · rw [List.any_eq_true] at hc
    obtain ⟨j, hj, hg⟩ := hc
    show _ = false
    rw [List.all_eq_false]
    exact ⟨j, hj, by rw [h j (List.mem_range.mp hj), hg]; decide⟩
theorem mk_0 {A C : Nat → Nat} {m r j p : Nat} (hm : m ≤ 6) (hA : A j < 2 ^ m) (hp : 6 ≤ p) : (List.range m).any (fun i => decide (i ≠ p) && qQ A C r j i) = !decide (mkS A C r j 6 = 0) := by
  by_cases h0 : mkS A C r j 6 = 0
  · rw [decide_eq_true h0]
    show _ = false
    rw [List.any_eq_false]
    intro i hi hc
    have hi' := List.mem_range.mp hi
    have hb := mkS_b (A := A) (C := C) (r := r) (j := j) 6 i
    rw [h0, decide_eq_true (show i < 6 by omega), Bool.true_and] at hb
    have : bt 0 i = false := Nat.zero_testBit i
    rw [this] at hb
    rw [← hb, Bool.and_false] at hc
    exact absurd hc (by decide)
  · rw [decide_eq_false h0]
    show _ = true
    obtain ⟨i, hi, hb⟩ := q_nz (m := 6) (mkS_lt (A := A) (C := C) (r := r) (j := j) 6 (by omega)) (show 1 ≤ mkS A C r j 6 by omega)
    rw [mkS_b, decide_eq_true hi, Bool.true_and] at hb
    rw [List.any_eq_true]
    refine ⟨i, List.mem_range.mpr ?_, by rw [hb, decide_eq_true (show i ≠ p by omega)]; rfl⟩
    apply Classical.byContradiction
    intro hc
    unfold qQ at hb
    rw [q_btm hA (by omega), Bool.false_and] at hb
    exact absurd hb (by decide)
theorem mk_1 {A C : Nat → Nat} {m r j p : Nat} (hm : m ≤ 6) (hA : A j < 2 ^ m) (hp : p < m) (h0 : mkS A C r j 6 ≠ 0) : (List.range m).any (fun i => decide (i ≠ p) && qQ A C r j i) = !decide (mkS A C r j 6 = 2 ^ p) := by
  have hlt := mkS_lt (A := A) (C := C) (r := r) (j := j) 6 (by omega)
  by_cases h1 : mkS A C r j 6 = 2 ^ p
  · rw [decide_eq_true h1]
    show _ = false
    rw [List.any_eq_false]
    intro i hi hc
    have hi' := List.mem_range.mp hi
    have hb := mkS_b (A := A) (C := C) (r := r) (j := j) 6 i
    rw [h1, decide_eq_true (show i < 6 by omega), Bool.true_and] at hb
    simp only [Bool.and_eq_true, decide_eq_true_eq] at hc
    rw [hc.2] at hb
    have : bt (2 ^ p) i = decide (p = i) := Nat.testBit_two_pow
    rw [this, decide_eq_true_eq] at hb
    exact hc.1 hb.symm
  · rw [decide_eq_false h1]
    show _ = true
    apply Classical.byContradiction
    intro hc
    have hc' := Bool.eq_false_iff.mpr hc
    rw [List.any_eq_false] at hc'
    have hq : ∀ q, q < 6 → q ≠ p → qQ A C r j q = false := by
      intro q hq hne
      by_cases hqm : q < m
      · have := hc' q (List.mem_range.mpr hqm)
        rw [decide_eq_true hne, Bool.true_and] at this
        exact Bool.eq_false_iff.mpr this
      · unfold qQ
        rw [q_btm hA (by omega)]; rfl
    apply h1
    obtain ⟨i, hi, hb⟩ := q_nz (m := 6) hlt (show 1 ≤ mkS A C r j 6 by omega)
    have hip : i = p := by
      apply Classical.byContradiction
      intro hne
      rw [mkS_b, hq i hi hne, Bool.and_false] at hb
      exact absurd hb (by decide)
    subst hip
    apply Nat.eq_of_testBit_eq
    intro q
    rw [Nat.testBit_two_pow]
    by_cases e : i = q
    · subst e; rw [decide_eq_true rfl]; exact hb
    · rw [decide_eq_false e]
      show bt (mkS A C r j 6) q = false
      rw [mkS_b]
      by_cases h6 : q < 6
      · rw [hq q h6 (fun h => e h.symm), Bool.and_false]
      · rw [decide_eq_false h6]; rfl
theorem st_span {n : Nat} {v1 v2 : Int32} {E : PE} {F G : Nat → Nat → Int32} {P : Nat → Nat → Option Nat} {N : Nat → Nat} {I : Nat → Int32} {R : Nat → Nat → Int32} (hn : 300000000 ≤ n) (h : RL E F G P N I R) : OKr (p_LB_span n E F G P N v1 v2) (p_Md_span n v1 v2 I R) := by
  obtain ⟨m, k, r, b, t, w, a, L, be, he, oi, h⟩ := h
  obtain ⟨hm, h0, hB, hL, hTl⟩ := SR_go h.1
  obtain ⟨⟨n1, n2, n3, n4, n5, n6, n7⟩, ⟨q0, f5⟩, -, ⟨q2, f12⟩, -⟩ := h.1.1
  have hW := RwN_of hm h.1.2.2.1
  generalize hA : (fun j => (R 1 (34 + j)).toNatClampNeg) = A at hW
  generalize hC : (fun j => (R 1 (46 + j)).toNatClampNeg) = C at hW
  unfold p_LB_span p_Md_span
  rcases walkC (n := n) (v := v1) (G := G) (N := N) (I := I) hm f5 h0 h.1.2.1 with ⟨p, q, hp, rfl, h1, h2, h3⟩ | ⟨h1, h2⟩
  · rw [h1, h3]
    show OKr (if v2 < 0 then some (-1) else (if v2 ≤ 1 then (p_St_rowsAgree n E F G P N 0).bind fun x5 => (if x5 = 0 then some 0 else (if v2 = 1 then (p_St_greatestOwn n E F G P N (nI p)).bind fun x13 => some x13 else (p_St_rowsAgree n E F G P N (1 <<< (nI p &&& 31))).bind fun x7 => (if x7 = 0 then (p_St_greatestOwn n E F G P N (nI p)).bind fun x11 => some x11 else some 1 : Option (Int32)).bind fun x9 => some x9)) else some (-1))) ((p_Md_in n v2 0 1).bind _)
    rcases inR (n := n) (x := v2) (c := 1) (C := 1) (by omega) rfl with ⟨i1, i2⟩ | ⟨i1, i2, i3, i4⟩ | ⟨y, hy, rfl, i2, i3, i4, i5⟩
    · rw [if_pos i1, i2]; exact ⟨-1, rfl, rfl⟩
    · rw [if_neg i1, if_neg i3, i4]; exact ⟨-1, rfl, rfl⟩
    · have a0 := agC (n := n) (E := E) (P := P) (N := N) (p := 6) (by omega) hm n3 (by omega) f5 f12 hW
      have a1 := agC (n := n) (E := E) (P := P) (N := N) (p := p) (by omega) hm n3 (by omega) f5 f12 hW
      have a0' : p_St_rowsAgree n E F G P N 0 = some (b2i ((List.range r).all (fun j => (List.range m).any (fun i => decide (i ≠ 6) && qQ A C r j i)))) := a0
      rw [if_neg (show ¬ p = 6 by omega)] at a1
      have gC := grC (n := n) (E := E) (P := P) (N := N) (p := p) (by omega) hm n3 (by omega) f12 hW
      have gM := moM (n := n) (I := I) (p := p) (by omega) hm n3 (by omega) q2 hW
      have hm2 : l_Md_span_27 n (nI p) (nI y) I R n 0 0 0 = some (b2i ((List.range r).any (fun j => decide (mkS A C r j 6 = 0))), b2i ((List.range r).any (fun j => decide (mkS A C r j 6 = 2 ^ p)))) := by
        have e := q_lpf (fun k j (v : Int32 × Int32) => l_Md_span_27 n (nI p) (nI y) I R k v.1 v.2 (nI j)) r (fun j => (b2i ((List.range j).any (fun j => decide (mkS A C r j 6 = 0))), b2i ((List.range j).any (fun j => decide (mkS A C r j 6 = 2 ^ p))))) (b2i ((List.range r).any (fun j => decide (mkS A C r j 6 = 0))), b2i ((List.range r).any (fun j => decide (mkS A C r j 6 = 2 ^ p)))) (fun k => by
          show l_Md_span_27 n (nI p) (nI y) I R (k + 1) _ _ (nI r) = _
          rw [l_Md_span_27, q2, if_pos (Int32.le_refl _)]) (fun k j hj => by
          show l_Md_span_27 n (nI p) (nI y) I R (k + 1) (b2i ((List.range j).any (fun j => decide (mkS A C r j 6 = 0)))) (b2i ((List.range j).any (fun j => decide (mkS A C r j 6 = 2 ^ p)))) (nI j) = l_Md_span_27 n (nI p) (nI y) I R k (b2i ((List.range (j + 1)).any (fun j => decide (mkS A C r j 6 = 0)))) (b2i ((List.range (j + 1)).any (fun j => decide (mkS A C r j 6 = 2 ^ p)))) (nI (j + 1))
          have hl := mkS_lt (A := A) (C := C) (r := r) (j := j) 6 (by omega)
          have hpp := q_pw p (by omega)
          rw [l_Md_span_27, q2, if_neg (nI_ge hj (by omega)), mkM (by omega) hm n3 hj q2 hW, Option.bind_some, q_one p (by omega), any_s, any_s, nI_1]
          have x1 : (if b2i ((List.range j).any (fun j => decide (mkS A C r j 6 = 0))) = 0 then (if nI (mkS A C r j 6) = 0 then some 1 else some 0) else some 1 : Option Int32) = some (b2i ((List.range j).any (fun j => decide (mkS A C r j 6 = 0)) || decide (mkS A C r j 6 = 0))) := by
            cases (List.range j).any (fun j => decide (mkS A C r j 6 = 0))
            · rw [if_pos (show b2i false = 0 from rfl)]
              by_cases hz : mkS A C r j 6 = 0
              · rw [hz]; rfl
              · rw [if_neg (show ¬ nI (mkS A C r j 6) = 0 from fun q => hz ((nI_eq (a := mkS A C r j 6) (b := 0) (by omega) (by omega)).mp q)), decide_eq_false hz]; rfl
            · rfl
          have x2 : (if b2i ((List.range j).any (fun j => decide (mkS A C r j 6 = 2 ^ p))) = 0 then (if nI (mkS A C r j 6) = nI (2 ^ p) then some 1 else some 0) else some 1 : Option Int32) = some (b2i ((List.range j).any (fun j => decide (mkS A C r j 6 = 2 ^ p)) || decide (mkS A C r j 6 = 2 ^ p))) := by
            cases (List.range j).any (fun j => decide (mkS A C r j 6 = 2 ^ p))
            · rw [if_pos (show b2i false = 0 from rfl)]
              by_cases hz : mkS A C r j 6 = 2 ^ p
              · rw [if_pos (show nI (mkS A C r j 6) = nI (2 ^ p) by rw [hz]), decide_eq_true hz]; rfl
              · rw [if_neg (show ¬ nI (mkS A C r j 6) = nI (2 ^ p) from fun q => hz ((nI_eq (by omega) (by omega)).mp q)), decide_eq_false hz]; rfl
            · rfl
          rw [x1, Option.bind_some, x2, Option.bind_some]) 0 n (by omega) (by omega)
        exact e
      rw [if_neg i3, if_pos i4, i2, Option.bind_some, if_neg (show ¬ (1 : Int32) = 0 by decide), a0', q_one p (by omega), a1, gC, hm2, gM]
      simp only [Option.bind_some]
      rw [all_any (g := fun j => decide (mkS A C r j 6 = 0)) (fun j hj => mk_0 hm (hW j hj).1 (by omega))]
      cases hz : (List.range r).any (fun j => decide (mkS A C r j 6 = 0))
      · have hne : ∀ j, j < r → mkS A C r j 6 ≠ 0 := by
          intro j hj he
          rw [List.any_eq_false] at hz
          exact hz j (List.mem_range.mpr hj) (decide_eq_true he)
        rw [if_neg (show ¬ b2i (!false) = 0 by decide), if_pos (show b2i false = 0 from rfl), all_any (g := fun j => decide (mkS A C r j 6 = 2 ^ p)) (fun j hj => mk_1 hm (hW j hj).1 hp (hne j hj))]
        by_cases hy1 : nI y = 1
        · rw [if_pos hy1, if_pos hy1]; exact ⟨_, rfl, rfl⟩
        · rw [if_neg hy1, if_neg hy1]
          cases (List.range r).any (fun j => decide (mkS A C r j 6 = 2 ^ p))
          · exact ⟨1, rfl, rfl⟩
          · exact ⟨_, rfl, rfl⟩
      · rw [if_pos (show b2i (!true) = 0 from rfl), if_neg (show ¬ b2i true = 0 by decide)]
        exact ⟨0, rfl, rfl⟩
  · rw [h1, h2]
    exact ⟨-1, rfl, rfl⟩
