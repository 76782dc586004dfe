/-! ===== steps: told, count, trace, of, as, feed, seen, book ===== -/
def OKr (f g : Option Int32) : Prop := ∃ r, f = some r ∧ g = some r
theorem st_told {n : Nat} {v : Int32} {E : PE} {F G : Nat → Nat → Int32} {P : Nat → Nat → Option Nat} {N : Nat → Nat} {I : Nat → Int32} {R : Nat → Nat → Int32} (h : RL E F G P N I R) : OKr (p_LB_told n E F G P N v) (p_Md_told n v I R) := by
  obtain ⟨m, k, r, b, t, w, a, L, be, he, oi, h⟩ := h
  obtain ⟨-, -, -, -, -, -, ⟨q8, f7⟩, ⟨q9, f6⟩, e8, e9⟩ := h.1.1
  obtain ⟨o1, o2, o3, o4, ⟨o5, o6, o7⟩, o8⟩ := h.1.2.2.2
  obtain ⟨t1, t2, t3⟩ := tell_0 (n := n) (I := I) o4 rfl
  unfold p_LB_told p_Md_told
  by_cases h0 : v = 0
  · rw [if_pos h0, if_pos h0, if_pos o1, o5, t1]; exact ⟨_, rfl, rfl⟩
  rw [if_neg h0, if_neg h0]
  by_cases h1 : v = 1
  · rw [if_pos h1, if_pos h1, if_pos o1, o6, t2]; exact ⟨_, rfl, rfl⟩
  rw [if_neg h1, if_neg h1]
  by_cases h2 : v = 2
  · rw [if_pos h2, if_pos h2, if_pos o1, o7, t3]; exact ⟨_, rfl, rfl⟩
  rw [if_neg h2, if_neg h2]
  by_cases h3 : v = 3
  · rw [if_pos h3, if_pos h3, e8]; exact ⟨_, rfl, rfl⟩
  rw [if_neg h3, if_neg h3]
  by_cases h4 : v = 4
  · rw [if_pos h4, if_pos h4, e9]; exact ⟨_, rfl, rfl⟩
  rw [if_neg h4, if_neg h4]
  by_cases h5 : v = 5
  · rw [if_pos h5, if_pos h5, f7, q8]; exact ⟨_, rfl, rfl⟩
  rw [if_neg h5, if_neg h5]
  by_cases h6 : v = 6
  · rw [if_pos h6, if_pos h6, f6, q9]; exact ⟨_, rfl, rfl⟩
  rw [if_neg h6, if_neg h6]
  exact ⟨_, rfl, rfl⟩
theorem st_count {n : Nat} {v : Int32} {E : PE} {F G : Nat → Nat → Int32} {P : Nat → Nat → Option Nat} {N : Nat → Nat} {I : Nat → Int32} {R : Nat → Nat → Int32} (h : RL E F G P N I R) : OKr (p_LB_count n E F G P N v) (p_Md_count n v I R) := by
  obtain ⟨m, k, r, b, t, w, a, L, be, he, oi, h⟩ := h
  obtain ⟨-, ⟨q0, f5⟩, ⟨q1, f3⟩, ⟨q2, f12⟩, ⟨q3, f14⟩, ⟨q4, f1⟩, -⟩ := h.1.1
  obtain ⟨c, c1, c2, c3, c4⟩ := h.2.2.1
  unfold p_LB_count p_Md_count
  rw [q0, f5, q1, f3, q2, f12, q3, f14, q4, f1, c2, c3]
  by_cases h0 : v = 0
  · rw [if_pos h0]; exact ⟨_, rfl, rfl⟩
  rw [if_neg h0]
  by_cases h1 : v = 1
  · rw [if_pos h1]; exact ⟨_, rfl, rfl⟩
  rw [if_neg h1]
  by_cases h2 : v = 2
  · rw [if_pos h2]; exact ⟨_, rfl, rfl⟩
  rw [if_neg h2]
  by_cases h3 : v = 3
  · rw [if_pos h3]; exact ⟨_, rfl, rfl⟩
  rw [if_neg h3]
  by_cases h4 : v = 4
  · rw [if_pos h4]; exact ⟨_, rfl, rfl⟩
  rw [if_neg h4]
  by_cases h5 : v = 5
  · rw [if_pos h5]; exact ⟨_, rfl, rfl⟩
  rw [if_neg h5]
  exact ⟨_, rfl, rfl⟩
theorem st_trace {n : Nat} {v : Int32} {E : PE} {F G : Nat → Nat → Int32} {P : Nat → Nat → Option Nat} {N : Nat → Nat} {I : Nat → Int32} {R : Nat → Nat → Int32} (h : RL E F G P N I R) : OKr (p_LB_trace n E F G P N v) (p_Md_trace n v I R) := by
  obtain ⟨m, k, r, b, t, w, a, L, be, he, oi, h⟩ := h
  obtain ⟨c, c1, c2, c3, c4⟩ := h.2.2.1
  unfold p_LB_trace p_Md_trace
  rw [c2, c3]
  have e1 : (if (20 : Int32) ≤ nI c then some 20 else some (nI c) : Option Int32) = some (nI c) := by
    by_cases h20 : c = 20
    · rw [h20]; rfl
    · rw [if_neg (show ¬ (20 : Int32) ≤ nI c from nI_ge (b := 20) (by omega) (by omega))]
  rw [e1, Option.bind_some]
  rcases pk_ix v (n := c) (by omega) with h1 | h1 | ⟨j, hj, rfl⟩
  · rw [if_pos h1, q_in0 (fun q => absurd h1 (Int32.not_lt.mpr q.1))]
    exact ⟨-1, rfl, rfl⟩
  · have h2 : ¬ v < 0 := fun q => absurd (Int32.lt_of_le_of_lt h1 q) (nI_pos (by omega))
    rw [if_neg h2, if_pos h1, q_in0 (fun q => ?_)]
    · exact ⟨-1, rfl, rfl⟩
    · have h3 := Int32.le_trans h1 q.2
      rcases c with _ | c
      · exact absurd h3 (by decide)
      · rw [nI_pred] at h3
        exact nI_ge (a := c) (b := c + 1) (by omega) (by omega) h3
  · obtain ⟨d, rfl⟩ : ∃ d, c = d + 1 := ⟨c - 1, by omega⟩
    rw [if_neg (nI_pos (by omega)), if_neg (nI_ge hj (by omega)), if_pos (show nI j < (20 : Int32) from nI_lt (b := 20) (by omega) (by omega)), nI_pred, q_in1 (nI_pos' (by omega)) (nI_le (by omega) (by omega)), show (1 : Int32) + nI j = nI (1 + j) from nI_add 1 j, if_pos (nI_in (by omega) (by omega)), nI_clamp (by omega), c4 j hj, Option.bind_some, if_neg (show ¬ (1 : Int32) = 0 by decide), if_pos (nI_in (by omega) (by omega)), nI_clamp (by omega)]
    exact ⟨_, rfl, rfl⟩
theorem walkC {n m : Nat} {v : Int32} {E : PE} {F G : Nat → Nat → Int32} {P : Nat → Nat → Option Nat} {N : Nat → Nat} {s : Nat → Int32} {I : Nat → Int32} {R : Nat → Nat → Int32} (hm : m ≤ 6) (f5 : F 1 5 = nI m) (h0 : R 1 0 = nI m) (hP : Ppl E (P 8) s m) : (∃ p q, p < m ∧ v = nI p ∧ p_St_walker n E F G P N v = some (some q) ∧ isW E s p q ∧ p_Md_isPerson n v I R = some 1) ∨ (p_St_walker n E F G P N v = some none ∧ p_Md_isPerson n v I R = some 0) := by
  unfold p_St_walker
  rw [f5]
  rcases q_per (v := v) (n := n) (I := I) hm h0 with ⟨p, hp, rfl, h1⟩ | ⟨h1, h2⟩
  · obtain ⟨q, hq1, hq2⟩ := hP.2.1 p hp
    refine Or.inl ⟨p, q, hp, rfl, ?_, hq2, h1⟩
    rw [if_neg (nI_pos (by omega)), if_pos (nI_lt hp (by omega)), if_pos (nI_in (by omega) (by omega)), nI_clamp (by omega), hq1]
    rfl
  · refine Or.inr ⟨?_, h2⟩
    by_cases hv : v < 0
    · rw [if_pos hv]; rfl
    · rw [if_neg hv, if_neg (fun q => ?_)]
      · rfl
      · rcases h1 with h1 | h1
        · exact hv h1
        · exact absurd q (Int32.not_lt.mpr h1)
theorem st_of {n : Nat} {v1 v2 : Int32} {E : PE} {F G : Nat → Nat → Int32} {P : Nat → Nat → Option Nat} {N : Nat → Nat} {I : Nat → Int32} {R : Nat → Nat → Int32} (h : RL E F G P N I R) : OKr (p_LB_of n E F G P N v1 v2) (p_Md_of n v1 v2 I R) := by
  obtain ⟨m, k, r, b, t, w, a, L, be, he, oi, h⟩ := h
  obtain ⟨hm, h0, hB, hL, hTl⟩ := SR_go h.1
  obtain ⟨-, ⟨q0, f5⟩, -, -, -, -, -, ⟨q9, f6⟩, -, -⟩ := h.1.1
  unfold p_LB_of p_Md_of
  rcases walkC (n := n) (v := v1) (G := G) (N := N) (I := I) hm f5 h0 h.1.2.1 with ⟨p, q, hp, rfl, h1, h2, h3⟩ | ⟨h1, h2⟩
  · rw [h1, h3]
    show OKr (if v2 = 0 then if eV E q = true then some (eD E q 0) else none else if v2 = 1 then if eV E q = true then some (eD E q 2) else none else if v2 = 2 then if eV E q = true then some (eD E q 3) else none else if v2 = 3 then if eV E q = true then some (eD E q 4) else none else if v2 = 4 then if eV E q = true then some ((((F 1 6) >>> ((eD E q 1) &&& 31)) &&& 1)) else none else some (-1)) ((p_Md_in n v2 0 4).bind _)
    obtain ⟨w1, w2, w3, w4, w5, w6, w7⟩ := h2
    rw [if_pos w1, if_pos w1, if_pos w1, if_pos w1, if_pos w1, w3, w4, w5, w6, w7, f6, q9]
    rcases inR (n := n) (x := v2) (c := 4) (C := 4) (by omega) rfl with ⟨i1, i2⟩ | ⟨i1, i2, i3, i4⟩ | ⟨y, hy, rfl, i2, i3, i4, i5⟩
    · rw [i2]
      have ne : ∀ j : Nat, j < 10 → ¬ v2 = nI j := fun j hj e => nI_pos (n := j) (by omega) (by rw [← e]; exact i1)
      rw [if_neg (show ¬ v2 = 0 from ne 0 (by omega)), if_neg (show ¬ v2 = 1 from ne 1 (by omega)), if_neg (show ¬ v2 = 2 from ne 2 (by omega)), if_neg (show ¬ v2 = 3 from ne 3 (by omega)), if_neg (show ¬ v2 = 4 from ne 4 (by omega))]
      exact ⟨-1, rfl, rfl⟩
    · rw [i4]
      have ne : ∀ j : Nat, j < 5 → ¬ v2 = nI j := fun j hj e => i3 (by rw [e]; exact nI_le (b := 4) (by omega) (by omega))
      rw [if_neg (show ¬ v2 = 0 from ne 0 (by omega)), if_neg (show ¬ v2 = 1 from ne 1 (by omega)), if_neg (show ¬ v2 = 2 from ne 2 (by omega)), if_neg (show ¬ v2 = 3 from ne 3 (by omega)), if_neg (show ¬ v2 = 4 from ne 4 (by omega))]
      exact ⟨-1, rfl, rfl⟩
    · rw [i2, Option.bind_some, if_neg (show ¬ (1 : Int32) = 0 by decide)]
      have e6 : (10 : Int32) + 6 * nI y + nI p = nI (10 + 6 * y + p) := by
        rw [show (6 : Int32) * nI y = nI (6 * y) from pk_mul 6 y, show (10 : Int32) + nI (6 * y) = nI (10 + 6 * y) from nI_add 10 (6 * y), nI_add]
      rw [e6, if_pos (nI_in (c := 10 + 6 * y + p) (by omega) (by omega)), nI_clamp (by omega)]
      rcases (by omega : y = 0 ∨ y = 1 ∨ y = 2 ∨ y = 3 ∨ y = 4) with rfl | rfl | rfl | rfl | rfl
      · exact ⟨_, rfl, rfl⟩
      · exact ⟨_, rfl, rfl⟩
      · exact ⟨_, rfl, rfl⟩
      · exact ⟨_, rfl, rfl⟩
      · exact ⟨_, rfl, rfl⟩
  · rw [h1, h2]
    exact ⟨-1, rfl, rfl⟩
theorem und_eq {n k x : Nat} {d : Nat → Int32} (hk : k ≤ 6) (hx : x ≤ 6) : pd_isUnder n (clsOf (nI k)) d (nI x) = p_Md_isUnder n (nI k) (nI x) := by
  rcases (by omega : k = 0 ∨ k = 1 ∨ k = 2 ∨ k = 3 ∨ k = 4 ∨ k = 5 ∨ k = 6) with rfl | rfl | rfl | rfl | rfl | rfl | rfl <;>
  rcases (by omega : x = 0 ∨ x = 1 ∨ x = 2 ∨ x = 3 ∨ x = 4 ∨ x = 5 ∨ x = 6) with rfl | rfl | rfl | rfl | rfl | rfl | rfl <;> rfl
theorem und_z {n : Nat} {k x : Int32} : p_Md_isUnder n k x = some 0 ∨ p_Md_isUnder n k x = some 1 := by
  unfold p_Md_isUnder
  repeat' split
  all_goals first
    | exact Or.inl rfl
    | exact Or.inr rfl
theorem st_as {n : Nat} {v1 v2 : Int32} {E : PE} {F G : Nat → Nat → Int32} {P : Nat → Nat → Option Nat} {N : Nat → Nat} {I : Nat → Int32} {R : Nat → Nat → Int32} (h : RL E F G P N I R) : OKr (p_LB_as n E F G P N v1 v2) (p_Md_as n v1 v2 I R) := by
  obtain ⟨m, k, r, b, t, w, a, L, be, he, oi, h⟩ := h
  obtain ⟨hm, h0, hB, hL, hTl⟩ := SR_go h.1
  obtain ⟨-, ⟨q0, f5⟩, -⟩ := h.1.1
  unfold p_LB_as p_Md_as
  rcases walkC (n := n) (v := v1) (G := G) (N := N) (I := I) hm f5 h0 h.1.2.1 with ⟨p, q, hp, rfl, h1, h2, h3⟩ | ⟨h1, h2⟩
  · rw [h1, h3]
    show OKr (if v2 < 0 then some (-1) else (if v2 ≤ 6 then if eV E q = true then (pd_isUnder n (eC E q) (eD E q) v2).bind fun x5 => (if x5 = 0 then some (-6) else some (eD E q 2) : Option (Int32)).bind fun x8 => some x8 else none else some (-1))) ((p_Md_in n v2 0 6).bind _)
    obtain ⟨w1, w2, w3, w4, w5, w6, w7⟩ := h2
    obtain ⟨kk, v, pc, wt, vk, vv, vp, vw, k6, v9, p1, p30, w9⟩ := hB p hp
    rcases inR (n := n) (x := v2) (c := 6) (C := 6) (by omega) rfl with ⟨i1, i2⟩ | ⟨i1, i2, i3, i4⟩ | ⟨y, hy, rfl, i2, i3, i4, i5⟩
    · rw [if_pos i1, i2]; exact ⟨-1, rfl, rfl⟩
    · rw [if_neg i1, if_neg i3, i4]; exact ⟨-1, rfl, rfl⟩
    · rw [if_neg i3, if_pos i4, if_pos w1, i2, Option.bind_some, if_neg (show ¬ (1 : Int32) = 0 by decide), show (10 : Int32) + nI p = nI (10 + p) from nI_add 10 p, show (16 : Int32) + nI p = nI (16 + p) from nI_add 16 p, if_pos (nI_in (c := 10 + p) (by omega) (by omega)), if_pos (nI_in (c := 16 + p) (by omega) (by omega)), nI_clamp (n := 10 + p) (by omega), nI_clamp (n := 16 + p) (by omega), w2, w5, vk, und_eq k6 hy]
      rcases und_z (n := n) (k := nI kk) (x := nI y) with e | e
      · rw [e]; exact ⟨-6, rfl, rfl⟩
      · rw [e]; exact ⟨_, rfl, rfl⟩
  · rw [h1, h2]
    exact ⟨-1, rfl, rfl⟩
/-- rows, book, tape change -/
theorem RL_row {E : PE} {F F' G G' : Nat → Nat → Int32} {P : Nat → Nat → Option Nat} {N : Nat → Nat} {I : Nat → Int32} {R R' : Nat → Nat → Int32} {m k r b t w a : Nat} {L : List Cls} {be he oi : Nat} (r' b' t' : Nat) (h : RLp E F G P N I R m k r b t w a L be he oi) (hF : ∀ q, q ≠ 1 → F' q = F q) (hR : ∀ q, q ≠ 1 → R' q = R q) (hG : ∀ q, q ≠ 6 → q ≠ 11 → q ≠ 13 → q ≠ 15 → G' q = G q) (hs : ∀ j, j ≠ 2 → j ≠ 3 → j ≠ 4 → (j < 34 ∨ 170 ≤ j) → R' 1 j = R 1 j) (hf : ∀ j, j ≠ 1 → j ≠ 12 → j ≠ 14 → F' 1 j = F 1 j) (l1 : r' ≤ 12) (l2 : b' ≤ 12) (l3 : t' ≤ 100) (e2 : R' 1 2 = nI r' ∧ F' 1 12 = nI r') (e3 : R' 1 3 = nI b' ∧ F' 1 14 = nI b') (e4 : R' 1 4 = nI t' ∧ F' 1 1 = nI t') (hw : Rws (G' 11) (G' 13) (G' 15) (G' 6) (R' 1) m r' b' t') : RLp E F' G' P N I R' m k r' b' t' w a L be he oi := by
  obtain ⟨⟨z1, z2, z3, z4⟩, im, tr, sl⟩ := h
  obtain ⟨⟨n1, n2, n3, n4, n5, n6, n7⟩, ⟨y1, y1'⟩, ⟨y2, y2'⟩, ⟨y3, y3'⟩, ⟨y4, y4'⟩, ⟨y5, y5'⟩, ⟨y6, y6'⟩, ⟨y7, y7'⟩, y8, y9⟩ := z1
  have S := fun j (a : j ≠ 2) (b : j ≠ 3) (c : j ≠ 4) (d : j < 34 ∨ 170 ≤ j) => hs j a b c d
  refine ⟨⟨⟨⟨n1, n2, l1, l2, l3, n6, n7⟩, ⟨by rw [S 0 (by decide) (by decide) (by decide) (by decide)]; exact y1, by rw [hf 5 (by decide) (by decide) (by decide)]; exact y1'⟩, ⟨by rw [S 1 (by decide) (by decide) (by decide) (by decide)]; exact y2, by rw [hf 3 (by decide) (by decide) (by decide)]; exact y2'⟩, e2, e3, e4, ⟨by rw [S 8 (by decide) (by decide) (by decide) (by decide)]; exact y6, by rw [hf 7 (by decide) (by decide) (by decide)]; exact y6'⟩, ⟨by rw [S 9 (by decide) (by decide) (by decide) (by decide)]; exact y7, by rw [hf 6 (by decide) (by decide) (by decide)]; exact y7'⟩, by rw [S 6 (by decide) (by decide) (by decide) (by decide), hf 8 (by decide) (by decide) (by decide)]; exact y8, by rw [S 7 (by decide) (by decide) (by decide) (by decide), hf 9 (by decide) (by decide) (by decide)]; exact y9⟩, Ppl_cg (fun j j1 j2 => S j (by omega) (by omega) (by omega) (by omega)) n1 z2, hw, Nit_cg (S 5 (by decide) (by decide) (by decide) (by decide)) (fun j j1 j2 => S j (by omega) (by omega) (by omega) (by omega)) (Nat.le_refl _) z4⟩, ?_, ?_, Stl_cg (fun j j1 j2 => S j (by omega) (by omega) (by omega) (by omega)) n1 (by rw [hF 0 (by decide)]) (hF 3 (by decide)) rfl rfl (fun q hq => hG q (by omega) (by omega) (by omega) (by omega)) sl⟩
  · unfold Img at im ⊢
    rw [hF 0 (by decide), hF 2 (by decide), hR 2 (by decide), hG 7 (by decide) (by decide) (by decide) (by decide), hG 12 (by decide) (by decide) (by decide) (by decide), hG 14 (by decide) (by decide) (by decide) (by decide), hG 16 (by decide) (by decide) (by decide) (by decide)]
    exact im
  · unfold Trc at tr ⊢
    rw [hR 19 (by decide), hG 5 (by decide) (by decide) (by decide) (by decide)]
    exact tr
theorem st_feed {n : Nat} {v1 : Int32} {E : PE} {F G : Nat → Nat → Int32} {P : Nat → Nat → Option Nat} {N : Nat → Nat} {I : Nat → Int32} {R : Nat → Nat → Int32} (h : RL E F G P N I R) : OKi E (p_LB_feed n E v1 F G P N) (p_Md_feed n v1 I R) := by
  have h' := h
  obtain ⟨m, k, r, b, t, w, a, L, be, he, oi, h⟩ := h
  unfold p_LB_feed p_Md_feed
  rcases inR (n := n) (x := v1) (c := 127) (C := 127) (by omega) rfl with ⟨i1, i2⟩ | ⟨i1, i2, i3, i4⟩ | ⟨y, hy, rfl, i2, i3, i4, i5⟩
  · rw [if_pos i1, i2]; exact ⟨-2, F, G, P, N, I, R, rfl, rfl, h'⟩
  · rw [if_neg i1, if_neg i3, i4]; exact ⟨-2, F, G, P, N, I, R, rfl, rfl, h'⟩
  · rw [if_neg i3, if_pos i4, i2, Option.bind_some, if_neg (show ¬ (1 : Int32) = 0 by decide)]
    obtain ⟨⟨n1, n2, n3, n4, n5, n6, n7⟩, -, -, e2, e3, ⟨y5, y5'⟩, -⟩ := h.1.1
    obtain ⟨w1, w2, w3⟩ := h.1.2.2.1
    rw [y5, y5', show (70 : Int32) + nI t = nI (70 + t) from nI_add 70 t]
    by_cases ht : t = 100
    · subst ht
      rw [if_neg (show ¬ nI 100 < 100 by decide), if_pos (show nI 100 = 100 from rfl)]
      exact ⟨-4, F, G, P, N, I, R, rfl, rfl, h'⟩
    · rw [if_pos (show nI t < (100 : Int32) from nI_lt (b := 100) (by omega) (by omega)), if_neg (show ¬ nI t = 100 from fun q => ht ((nI_eq (a := t) (b := 100) (by omega) (by omega)).mp q)), if_pos (nI_in (c := t) (by omega) (by omega)), if_pos (nI_in (c := 70 + t) (by omega) (by omega)), nI_clamp (by omega), nI_clamp (by omega), q_upE (show ¬ ((1 : Nat) = 1 ∧ (4 : Nat) = 70 + t) by omega), y5, q_upV, q_upV, nI_1]
      refine ⟨_, _, _, _, _, _, _, rfl, rfl, (RL_row (F' := upR F 1 1 (nI (t + 1))) (G' := upR G 6 t (nI y)) (R' := upR (upR R 1 (70 + t) (nI y)) 1 4 (nI (t + 1))) r b (t + 1) h (fun q hq => q_upN hq) (fun q hq => by rw [q_upN hq, q_upN hq]) (fun q h6 _ _ _ => q_upN h6) (fun j j2 j3 j4 j5 => by rw [q_upE (by omega), q_upE (by omega)]) (fun j j1 j2 j3 => q_upE (by omega)) n3 n4 (by omega) ⟨by rw [q_upE (by omega), q_upE (by omega)]; exact e2.1, by rw [q_upE (by omega)]; exact e2.2⟩ ⟨by rw [q_upE (by omega), q_upE (by omega)]; exact e3.1, by rw [q_upE (by omega)]; exact e3.2⟩ ⟨q_upV, q_upV⟩ ⟨fun j hj => ?_, fun j hj => ?_, fun j hj => ?_⟩).rl⟩
      · rw [q_upN (show (11 : Nat) ≠ 6 by decide), q_upN (show (13 : Nat) ≠ 6 by decide), q_upE (by omega), q_upE (by omega), q_upE (by omega), q_upE (by omega)]
        exact w1 j hj
      · rw [q_upN (show (15 : Nat) ≠ 6 by decide), q_upE (by omega), q_upE (by omega)]
        exact w2 j hj
      · by_cases e : j = t
        · subst e
          exact ⟨y, hy, q_upV, by rw [q_upE (by omega), q_upV]⟩
        · rw [q_upE (by omega), q_upE (by omega), q_upE (by omega)]
          exact w3 j (by omega)
theorem st_seen {n : Nat} {v1 v2 : Int32} {E : PE} {F G : Nat → Nat → Int32} {P : Nat → Nat → Option Nat} {N : Nat → Nat} {I : Nat → Int32} {R : Nat → Nat → Int32} (h : RL E F G P N I R) : OKi E (p_LB_seen n E v1 v2 F G P N) (p_Md_seen n v1 v2 I R) := by
  have h' := h
  obtain ⟨m, k, r, b, t, w, a, L, be, he, oi, h⟩ := h
  obtain ⟨hm, h0, hB, hL, hTl⟩ := SR_go h.1
  have h64 := q_p2 m (by omega)
  obtain ⟨⟨n1, n2, n3, n4, n5, n6, n7⟩, ⟨q0, f5⟩, -, ⟨y3, y3'⟩, e3, e4, -⟩ := h.1.1
  obtain ⟨w1, w2, w3⟩ := h.1.2.2.1
  unfold p_LB_seen p_Md_seen
  by_cases hv : v1 = (-1)
  · rw [if_pos hv, if_pos hv]
    refine ⟨_, _, _, _, _, _, _, rfl, rfl, (RL_row (F' := upR F 1 12 0) (G' := G) (R' := upR R 1 2 0) 0 b t h (fun q hq => q_upN hq) (fun q hq => q_upN hq) (fun q _ _ _ _ => rfl) (fun j j2 j3 j4 j5 => q_upE (by omega)) (fun j j1 j2 j3 => q_upE (by omega)) (by omega) n4 n5 ⟨q_upV, q_upV⟩ ⟨by rw [q_upE (by omega)]; exact e3.1, by rw [q_upE (by omega)]; exact e3.2⟩ ⟨by rw [q_upE (by omega)]; exact e4.1, by rw [q_upE (by omega)]; exact e4.2⟩ ⟨fun j hj => by omega, fun j hj => by rw [q_upE (by omega)]; exact w2 j hj, fun j hj => by rw [q_upE (by omega)]; exact w3 j hj⟩).rl⟩
  · rw [if_neg hv, if_neg hv]
    by_cases hz : v1 = 0
    · rw [if_pos hz, isS_1 hm h0 ⟨0, by omega, hz⟩, Option.bind_some, if_neg (show ¬ (1 : Int32) = 0 by decide), if_pos hz]
      exact ⟨-2, F, G, P, N, I, R, rfl, rfl, h'⟩
    · rw [if_neg hz]
      by_cases hS : isS m v1
      · rw [isS_c1 hm f5 hS, isS_1 hm h0 hS]
        obtain ⟨g, hg, rfl⟩ := hS
        have hg1 : 1 ≤ g := by
          apply Classical.byContradiction
          intro hc
          exact hz (by rw [show g = 0 by omega]; rfl)
        rw [Option.bind_some, Option.bind_some, if_neg (show ¬ (1 : Int32) = 0 by decide), if_neg (show ¬ (1 : Int32) = 0 by decide), if_neg hz]
        by_cases hlo : v2 < 1
        · rw [if_pos hlo, q_in0 (fun q => absurd hlo (Int32.not_lt.mpr q.1))]
          exact ⟨-2, F, G, P, N, I, R, rfl, rfl, h'⟩
        · rw [if_neg hlo]
          by_cases hhi : v2 ≤ 99
          · rw [if_pos hhi, q_in1 (Int32.not_lt.mp hlo) hhi, Option.bind_some, if_neg (show ¬ (1 : Int32) = 0 by decide)]
            obtain ⟨c, hc, rfl⟩ := q_rng (x := v2) (c := 99) (by omega) (Int32.le_trans (by decide) (Int32.not_lt.mp hlo)) hhi
            have hc1 : 1 ≤ c := by
              apply Classical.byContradiction
              intro hcc
              exact hlo (by rw [show c = 0 by omega]; decide)
            rw [y3, y3', show (34 : Int32) + nI r = nI (34 + r) from nI_add 34 r]
            by_cases hr : r = 12
            · subst hr
              rw [if_neg (show ¬ nI 12 < 12 by decide), if_pos (show nI 12 = 12 from rfl)]
              exact ⟨-4, F, G, P, N, I, R, rfl, rfl, h'⟩
            · rw [if_pos (show nI r < (12 : Int32) from nI_lt (b := 12) (by omega) (by omega)), if_neg (show ¬ nI r = 12 from fun q => hr ((nI_eq (a := r) (b := 12) (by omega) (by omega)).mp q)), if_pos (nI_in (c := r) (by omega) (by omega)), if_pos (nI_in (c := r) (by omega) (by omega)), if_pos (nI_in (c := 34 + r) (by omega) (by omega)), nI_clamp (n := 34 + r) (by omega), q_upE (show ¬ ((1 : Nat) = 1 ∧ (2 : Nat) = 34 + r) by omega), y3, show (46 : Int32) + nI r = nI (46 + r) from nI_add 46 r, if_pos (nI_in (c := 46 + r) (by omega) (by omega)), nI_clamp (n := 46 + r) (by omega), nI_clamp (n := r) (by omega), q_upE (show ¬ ((1 : Nat) = 1 ∧ (2 : Nat) = 46 + r) by omega), q_upE (show ¬ ((1 : Nat) = 1 ∧ (2 : Nat) = 34 + r) by omega), y3, q_upV, q_upV, nI_1]
              refine ⟨_, _, _, _, _, _, _, rfl, rfl, (RL_row (F' := upR F 1 12 (nI (r + 1))) (G' := upR (upR G 11 r (nI g)) 13 r (nI c)) (R' := upR (upR (upR R 1 (34 + r) (nI g)) 1 (46 + r) (nI c)) 1 2 (nI (r + 1))) (r + 1) b t h (fun q hq => q_upN hq) (fun q hq => by rw [q_upN hq, q_upN hq, q_upN hq]) (fun q _ h11 h13 _ => by rw [q_upN h13, q_upN h11]) (fun j j2 j3 j4 j5 => by rw [q_upE (by omega), q_upE (by omega), q_upE (by omega)]) (fun j j1 j2 j3 => q_upE (by omega)) (by omega) n4 n5 ⟨q_upV, q_upV⟩ ⟨by rw [q_upE (by omega), q_upE (by omega), q_upE (by omega)]; exact e3.1, by rw [q_upE (by omega)]; exact e3.2⟩ ⟨by rw [q_upE (by omega), q_upE (by omega), q_upE (by omega)]; exact e4.1, by rw [q_upE (by omega)]; exact e4.2⟩ ⟨fun j hj => ?_, fun j hj => ?_, fun j hj => ?_⟩).rl⟩
              · by_cases e : j = r
                · subst e
                  exact ⟨g, c, hg1, hg, hc1, hc, by rw [q_upE (by omega), q_upV], by rw [q_upE (by omega), q_upE (by omega), q_upV], q_upV, by rw [q_upE (by omega), q_upV]⟩
                · rw [q_upE (by omega), q_upE (by omega), q_upE (by omega), q_upE (by omega), q_upE (by omega), q_upE (by omega), q_upE (by omega), q_upE (by omega), q_upE (by omega), q_upE (by omega)]
                  exact w1 j (by omega)
              · rw [q_upE (by omega), q_upE (by omega), q_upE (by omega), q_upE (by omega), q_upE (by omega)]
                exact w2 j hj
              · rw [q_upE (by omega), q_upE (by omega), q_upE (by omega), q_upE (by omega), q_upE (by omega)]
                exact w3 j hj
          · rw [if_neg hhi, q_in0 (fun q => hhi q.2)]
            exact ⟨-2, F, G, P, N, I, R, rfl, rfl, h'⟩
      · rw [isS_c0 hm f5 hS, isS_0 hm h0 hS]
        exact ⟨-2, F, G, P, N, I, R, rfl, rfl, h'⟩
theorem st_book {n : Nat} {v1 : Int32} {E : PE} {F G : Nat → Nat → Int32} {P : Nat → Nat → Option Nat} {N : Nat → Nat} {I : Nat → Int32} {R : Nat → Nat → Int32} (h : RL E F G P N I R) : OKi E (p_LB_book n E v1 F G P N) (p_Md_book n v1 I R) := by
  have h' := h
  obtain ⟨m, k, r, b, t, w, a, L, be, he, oi, h⟩ := h
  obtain ⟨hm, h0, hB, hL, hTl⟩ := SR_go h.1
  have h64 := q_p2 m (by omega)
  obtain ⟨⟨n1, n2, n3, n4, n5, n6, n7⟩, ⟨q0, f5⟩, -, e2, ⟨y3, y3'⟩, e4, -⟩ := h.1.1
  obtain ⟨w1, w2, w3⟩ := h.1.2.2.1
  unfold p_LB_book p_Md_book
  by_cases hv : v1 = (-1)
  · rw [if_pos hv, if_pos hv]
    refine ⟨_, _, _, _, _, _, _, rfl, rfl, (RL_row (F' := upR F 1 14 0) (G' := G) (R' := upR R 1 3 0) r 0 t h (fun q hq => q_upN hq) (fun q hq => q_upN hq) (fun q _ _ _ _ => rfl) (fun j j2 j3 j4 j5 => q_upE (by omega)) (fun j j1 j2 j3 => q_upE (by omega)) n3 (by omega) n5 ⟨by rw [q_upE (by omega)]; exact e2.1, by rw [q_upE (by omega)]; exact e2.2⟩ ⟨q_upV, q_upV⟩ ⟨by rw [q_upE (by omega)]; exact e4.1, by rw [q_upE (by omega)]; exact e4.2⟩ ⟨fun j hj => by rw [q_upE (by omega), q_upE (by omega)]; exact w1 j hj, fun j hj => by omega, fun j hj => by rw [q_upE (by omega)]; exact w3 j hj⟩).rl⟩
  · rw [if_neg hv, if_neg hv]
    by_cases hz : v1 = 0
    · rw [if_pos hz, isS_1 hm h0 ⟨0, by omega, hz⟩, Option.bind_some, if_neg (show ¬ (1 : Int32) = 0 by decide), if_pos hz]
      exact ⟨-2, F, G, P, N, I, R, rfl, rfl, h'⟩
    · rw [if_neg hz]
      by_cases hS : isS m v1
      · rw [isS_c1 hm f5 hS, isS_1 hm h0 hS]
        obtain ⟨g, hg, rfl⟩ := hS
        have hg1 : 1 ≤ g := by
          apply Classical.byContradiction
          intro hc
          exact hz (by rw [show g = 0 by omega]; rfl)
        rw [Option.bind_some, Option.bind_some, if_neg (show ¬ (1 : Int32) = 0 by decide), if_neg (show ¬ (1 : Int32) = 0 by decide), if_neg hz, y3, y3', show (58 : Int32) + nI b = nI (58 + b) from nI_add 58 b]
        by_cases hr : b = 12
        · subst hr
          rw [if_neg (show ¬ nI 12 < 12 by decide), if_pos (show nI 12 = 12 from rfl)]
          exact ⟨-4, F, G, P, N, I, R, rfl, rfl, h'⟩
        · rw [if_pos (show nI b < (12 : Int32) from nI_lt (b := 12) (by omega) (by omega)), if_neg (show ¬ nI b = 12 from fun q => hr ((nI_eq (a := b) (b := 12) (by omega) (by omega)).mp q)), if_pos (nI_in (c := b) (by omega) (by omega)), if_pos (nI_in (c := 58 + b) (by omega) (by omega)), nI_clamp (n := 58 + b) (by omega), nI_clamp (n := b) (by omega), q_upE (show ¬ ((1 : Nat) = 1 ∧ (3 : Nat) = 58 + b) by omega), y3, q_upV, q_upV, nI_1]
          refine ⟨_, _, _, _, _, _, _, rfl, rfl, (RL_row (F' := upR F 1 14 (nI (b + 1))) (G' := upR G 15 b (nI g)) (R' := upR (upR R 1 (58 + b) (nI g)) 1 3 (nI (b + 1))) r (b + 1) t h (fun q hq => q_upN hq) (fun q hq => by rw [q_upN hq, q_upN hq]) (fun q _ _ _ h15 => q_upN h15) (fun j j2 j3 j4 j5 => by rw [q_upE (by omega), q_upE (by omega)]) (fun j j1 j2 j3 => q_upE (by omega)) n3 (by omega) n5 ⟨by rw [q_upE (by omega), q_upE (by omega)]; exact e2.1, by rw [q_upE (by omega)]; exact e2.2⟩ ⟨q_upV, q_upV⟩ ⟨by rw [q_upE (by omega), q_upE (by omega)]; exact e4.1, by rw [q_upE (by omega)]; exact e4.2⟩ ⟨fun j hj => ?_, fun j hj => ?_, fun j hj => ?_⟩).rl⟩
          · rw [q_upE (by omega), q_upE (by omega), q_upE (by omega), q_upE (by omega), q_upE (by omega), q_upE (by omega)]
            exact w1 j hj
          · by_cases e : j = b
            · subst e
              exact ⟨g, hg1, hg, q_upV, by rw [q_upE (by omega), q_upV]⟩
            · rw [q_upE (by omega), q_upE (by omega), q_upE (by omega)]
              exact w2 j (by omega)
          · rw [q_upE (by omega), q_upE (by omega), q_upE (by omega)]
            exact w3 j hj
      · rw [isS_c0 hm f5 hS, isS_0 hm h0 hS]
        exact ⟨-2, F, G, P, N, I, R, rfl, rfl, h'⟩
