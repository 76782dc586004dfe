/-! ===== steps: person, quicker ===== -/
def Ex (E E' : PE) : Prop := (∀ a, eV E a = true → eV E' a = true ∧ eC E' a = eC E a ∧ eD E' a = eD E a) ∧ ∀ a, eN E a = true → eN E' a = true ∧ eT E' a = eT E a ∧ eI E' a = eI E a ∧ eR E' a = eR E a
theorem Ex_W {E : PE} {q ci : Nat} {d : Nat → Int32} (h : eV E q = false) : Ex E (addW E q ci d) := by
  refine ⟨fun a ha => ?_, fun a ha => ⟨ha, rfl, rfl, rfl⟩⟩
  have hne : a ≠ q := fun e => by rw [e, h] at ha; exact absurd ha (by decide)
  refine ⟨?_, ?_, ?_⟩
  · show (if a = q then true else E.1 a) = true
    rw [if_neg hne]; exact ha
  · show (if a = q then ci else E.2.1 a) = _
    rw [if_neg hne]; rfl
  · show (if a = q then d else E.2.2.1 a) = _
    rw [if_neg hne]; rfl
theorem isW_Ex {E E' : PE} {s : Nat → Int32} {i q : Nat} (hE : Ex E E') (h : isW E s i q) : isW E' s i q := by
  obtain ⟨h1, h2⟩ := h
  obtain ⟨e1, e2, e3⟩ := hE.1 q h1
  refine ⟨e1, ?_⟩
  rw [e2, e3]; exact h2
theorem all_Ex {E E' : PE} {p : Option Nat} (hE : Ex E E') (h : Option.all (eV E) p = true) : Option.all (eV E') p = true := by
  cases p with
  | none => rfl
  | some q => exact (hE.1 q h).1
theorem Ppl_Ex {E E' : PE} {pp : Nat → Option Nat} {s : Nat → Int32} {m : Nat} (hE : Ex E E') (h : Ppl E pp s m) : Ppl E' pp s m := ⟨h.1, fun i hi => by obtain ⟨q, h1, h2⟩ := h.2.1 i hi; exact ⟨q, h1, isW_Ex hE h2⟩, fun i hi => all_Ex hE (h.2.2 i hi)⟩
theorem Nit_Ex {E E' : PE} {nn : Nat} {s : Nat → Int32} {k : Nat} {L : List Cls} {be he oi : Nat} (hE : Ex E E') (h : Nit E nn s k L be he oi) : Nit E' nn s k L be he oi := by
  obtain ⟨h1, h2⟩ := h
  obtain ⟨e1, e2, e3, e4⟩ := hE.2 nn h1
  refine ⟨e1, ?_⟩
  rw [e2, e3, e4]; exact h2
theorem SR_Ex {E E' : PE} {f tp rs rm bk : Nat → Int32} {pp : Nat → Option Nat} {nn : Nat} {s : Nat → Int32} {m k r b t w a : Nat} {L : List Cls} {be he oi : Nat} (hE : Ex E E') (h : SR E f tp rs rm bk pp nn s m k r b t w a L be he oi) : SR E' f tp rs rm bk pp nn s m k r b t w a L be he oi := ⟨h.1, Ppl_Ex hE h.2.1, h.2.2.1, Nit_Ex hE h.2.2.2⟩
theorem GoV_Ex {E E' : PE} {F : Nat → Nat → Int32} {P : Nat → Nat → Option Nat} {N : Nat → Nat} {s : Nat → Int32} {m : Nat} {L : List Cls} {be he : Nat} (hE : Ex E E') (h : GoV E F P N s m L be he) : GoV E' F P N s m L be he := by
  obtain ⟨v1, v2, v3, v4, v5, v6⟩ := h
  obtain ⟨e1, e2, e3, e4⟩ := hE.2 (N 3) v5
  refine ⟨v1, v2, v3, fun i hi => by obtain ⟨q, h1, h2⟩ := v4 i hi; exact ⟨q, h1, isW_Ex hE h2⟩, e1, ?_⟩
  rw [e2, e3, e4]; exact v6
theorem Img_Ex {E E' : PE} {F G : Nat → Nat → Int32} {P : Nat → Nat → Option Nat} {N : Nat → Nat} {I : Nat → Int32} {R : Nat → Nat → Int32} (hE : Ex E E') (h : Img E F G P N I R) : Img E' F G P N I R := by
  obtain ⟨im, h1, h2, h3⟩ := h
  refine ⟨im, h1, h2, fun hi => ?_⟩
  obtain ⟨m, k, r, b, t, w, a, L, be, he, oi, h4⟩ := h3 hi
  exact ⟨m, k, r, b, t, w, a, L, be, he, oi, SR_Ex hE h4⟩
theorem st_person {n : Nat} {v1 v2 v3 v4 : Int32} {E : PE} {F G : Nat → Nat → Int32} {P : Nat → Nat → Option Nat} {N : Nat → Nat} {I : Nat → Int32} {R : Nat → Nat → Int32} (h : RL E F G P N I R) : ∃ z, p_LB_person v1 v2 v3 v4 F = some z ∧ ∀ r u E', post_person v1 v2 v3 v4 F G P N E z r u E' → ∃ I' R', p_Md_person n v1 v2 v3 v4 I R = some (r, I', R') ∧ RL E' u.1 u.2.1 u.2.2.1 u.2.2.2 I' R' := by
  have h' := h
  obtain ⟨m, k, r, b, t, w, a, L, be, he, oi, h⟩ := h
  have ref : ∀ (x : Int32), p_Md_person n v1 v2 v3 v4 I R = some (x, I, R) → ∀ r u E', post_person v1 v2 v3 v4 F G P N E (some x) r u E' → ∃ I' R', p_Md_person n v1 v2 v3 v4 I R = some (r, I', R') ∧ RL E' u.1 u.2.1 u.2.2.1 u.2.2.2 I' R' := by
    intro x hx r u E' hp
    obtain ⟨p1, p2, p3⟩ := hp
    subst p1 p2 p3
    exact ⟨I, R, hx, h'⟩
  unfold p_LB_person
  rcases inR (n := n) (x := v1) (c := 6) (C := 6) (by omega) rfl with ⟨i1, i2⟩ | ⟨i1, i2, i3, i4⟩ | ⟨kk, hk, rfl, i2, i3, i4, i5⟩
  · rw [if_pos i1]; exact ⟨_, rfl, ref _ (by unfold p_Md_person; rw [i2]; rfl)⟩
  · rw [if_neg i1, if_neg i3]; exact ⟨_, rfl, ref _ (by unfold p_Md_person; rw [i4]; rfl)⟩
  rw [if_neg i3, if_pos i4]
  rcases inR (n := n) (x := v2) (c := 9) (C := 9) (by omega) rfl with ⟨j1, j2⟩ | ⟨j1, j2, j3, j4⟩ | ⟨v, hv, rfl, j2, j3, j4, j5⟩
  · rw [if_pos j1]; exact ⟨_, rfl, ref _ (by unfold p_Md_person; rw [i2, Option.bind_some, if_neg (show ¬ (1 : Int32) = 0 by decide), j2]; rfl)⟩
  · rw [if_neg j1, if_pos j2]; exact ⟨_, rfl, ref _ (by unfold p_Md_person; rw [i2, Option.bind_some, if_neg (show ¬ (1 : Int32) = 0 by decide), j4]; rfl)⟩
  rw [if_neg j3, if_neg j5]
  by_cases h3a : v3 < 1
  · rw [if_pos h3a]; exact ⟨_, rfl, ref _ (by unfold p_Md_person; rw [i2, Option.bind_some, if_neg (show ¬ (1 : Int32) = 0 by decide), j2, Option.bind_some, if_neg (show ¬ (1 : Int32) = 0 by decide), q_in0 (fun q => absurd h3a (Int32.not_lt.mpr q.1))]; rfl)⟩
  rw [if_neg h3a]
  by_cases h3b : 30 < v3
  · rw [if_pos h3b]; exact ⟨_, rfl, ref _ (by unfold p_Md_person; rw [i2, Option.bind_some, if_neg (show ¬ (1 : Int32) = 0 by decide), j2, Option.bind_some, if_neg (show ¬ (1 : Int32) = 0 by decide), q_in0 (fun q => absurd h3b (Int32.not_lt.mpr q.2))]; rfl)⟩
  rw [if_neg h3b]
  have e3 : p_Md_in n v3 1 30 = some 1 := q_in1 (Int32.not_lt.mp h3a) (Int32.not_lt.mp h3b)
  obtain ⟨pc, hpc, rfl⟩ := q_rng (x := v3) (c := 30) (by omega) (Int32.le_trans (by decide) (Int32.not_lt.mp h3a)) (Int32.not_lt.mp h3b)
  have hpc1 : 1 ≤ pc := by
    apply Classical.byContradiction
    intro hc
    exact h3a (by rw [show pc = 0 by omega]; decide)
  rcases inR (n := n) (x := v4) (c := 9) (C := 9) (by omega) rfl with ⟨l1, l2⟩ | ⟨l1, l2, l3, l4⟩ | ⟨wt, hwt, rfl, l2, l3, l4, l5⟩
  · rw [if_pos l1]; exact ⟨_, rfl, ref _ (by unfold p_Md_person; rw [i2, Option.bind_some, if_neg (show ¬ (1 : Int32) = 0 by decide), j2, Option.bind_some, if_neg (show ¬ (1 : Int32) = 0 by decide), e3, Option.bind_some, if_neg (show ¬ (1 : Int32) = 0 by decide), l2]; rfl)⟩
  · rw [if_neg l1, if_neg l3]; exact ⟨_, rfl, ref _ (by unfold p_Md_person; rw [i2, Option.bind_some, if_neg (show ¬ (1 : Int32) = 0 by decide), j2, Option.bind_some, if_neg (show ¬ (1 : Int32) = 0 by decide), e3, Option.bind_some, if_neg (show ¬ (1 : Int32) = 0 by decide), l4]; rfl)⟩
  rw [if_neg l3, if_pos l4]
  obtain ⟨⟨n1, n2, n3, n4, n5, n6, n7⟩, ⟨y1, y1'⟩, ⟨y2, y2'⟩, ⟨y3, y3'⟩, ⟨y4, y4'⟩, ⟨y5, y5'⟩, ⟨y6, y6'⟩, ⟨y7, y7'⟩, y8, y9⟩ := h.1.1
  have eM : p_Md_person n (nI kk) (nI v) (nI pc) (nI wt) I R = (if nI m = 6 then some ((-4), I, R) else if ix (nI (10 + m)) 890 then if ix (nI (16 + m)) 890 then if ix (nI (22 + m)) 890 then if ix (nI (28 + m)) 890 then some (nI m, I, (upR (upR (upR (upR (upR R 1 (nI (10 + m)).toNatClampNeg (nI kk)) 1 (nI (16 + m)).toNatClampNeg (nI v)) 1 (nI (22 + m)).toNatClampNeg (nI pc)) 1 (nI (28 + m)).toNatClampNeg (nI wt)) 1 0 (((((upR (upR (upR (upR R 1 (nI (10 + m)).toNatClampNeg (nI kk)) 1 (nI (16 + m)).toNatClampNeg (nI v)) 1 (nI (22 + m)).toNatClampNeg (nI pc)) 1 (nI (28 + m)).toNatClampNeg (nI wt))) 1 0) + 1)))) else none else none else none else none) := by
    unfold p_Md_person
    rw [i2, Option.bind_some, if_neg (show ¬ (1 : Int32) = 0 by decide), j2, Option.bind_some, if_neg (show ¬ (1 : Int32) = 0 by decide), e3, Option.bind_some, if_neg (show ¬ (1 : Int32) = 0 by decide), l2, Option.bind_some, if_neg (show ¬ (1 : Int32) = 0 by decide), y1, show (10 : Int32) + nI m = nI (10 + m) from nI_add 10 m, show (16 : Int32) + nI m = nI (16 + m) from nI_add 16 m, show (22 : Int32) + nI m = nI (22 + m) from nI_add 22 m, show (28 : Int32) + nI m = nI (28 + m) from nI_add 28 m]
  rw [y1']
  by_cases hm6 : m = 6
  · subst hm6
    rw [if_neg (show ¬ nI 6 < 6 by decide)]
    exact ⟨_, rfl, ref _ (by rw [eM]; rfl)⟩
  · rw [if_pos (show nI m < (6 : Int32) from nI_lt (b := 6) (by omega) (by omega)), if_pos (nI_in (by omega) (by omega))]
    refine ⟨none, rfl, fun r' u E' hp => ?_⟩
    obtain ⟨q, p1, p2, p3, p4⟩ := hp
    subst p3 p4
    rw [eM, if_neg (show ¬ nI m = 6 from fun e => hm6 ((nI_eq (a := m) (b := 6) (by omega) (by omega)).mp e)), if_pos (nI_in (by omega) (by omega)), if_pos (nI_in (by omega) (by omega)), if_pos (nI_in (by omega) (by omega)), if_pos (nI_in (by omega) (by omega)), nI_clamp (by omega), nI_clamp (by omega), nI_clamp (by omega), nI_clamp (by omega), q_upE (show ¬ ((1 : Nat) = 1 ∧ 0 = 28 + m) by omega), q_upE (show ¬ ((1 : Nat) = 1 ∧ 0 = 22 + m) by omega), q_upE (show ¬ ((1 : Nat) = 1 ∧ 0 = 16 + m) by omega), q_upE (show ¬ ((1 : Nat) = 1 ∧ 0 = 10 + m) by omega), y1, nI_1]
    have er : r' = nI m := by rw [p2, q_upE (by omega), q_upV, y1', nI_1, nI_pred]
    refine ⟨_, _, by rw [er], ?_⟩
    dsimp only
    have hE : Ex E (addW E q (clsOf (nI kk)) (wv (nI kk) (F 1 5) (nI v) (nI pc) (nI wt))) := Ex_W p1
    obtain ⟨⟨z1, z2, z3, z4⟩, im, tr, sl⟩ := h
    have f1 : ∀ j, j ≠ 5 → (upR (upR F 1 5 (F 1 5 + 1)) 0 6 1) 1 j = F 1 j := fun j hj => by rw [q_upN (by decide), q_upE (fun e => hj e.2)]
    have S : ∀ j, j ≠ 0 → j ≠ 10 + m → j ≠ 16 + m → j ≠ 22 + m → j ≠ 28 + m → (upR (upR (upR (upR (upR R 1 (10 + m) (nI kk)) 1 (16 + m) (nI v)) 1 (22 + m) (nI pc)) 1 (28 + m) (nI wt)) 1 0 (nI (m + 1))) 1 j = R 1 j := fun j a b c d e => by rw [q_upE (fun x => a x.2), q_upE (fun x => e x.2), q_upE (fun x => d x.2), q_upE (fun x => c x.2), q_upE (fun x => b x.2)]
    have s10 : (upR (upR (upR (upR (upR R 1 (10 + m) (nI kk)) 1 (16 + m) (nI v)) 1 (22 + m) (nI pc)) 1 (28 + m) (nI wt)) 1 0 (nI (m + 1))) 1 (10 + m) = nI kk := by rw [q_upE (by omega), q_upE (by omega), q_upE (by omega), q_upE (by omega), q_upV]
    have s16 : (upR (upR (upR (upR (upR R 1 (10 + m) (nI kk)) 1 (16 + m) (nI v)) 1 (22 + m) (nI pc)) 1 (28 + m) (nI wt)) 1 0 (nI (m + 1))) 1 (16 + m) = nI v := by rw [q_upE (by omega), q_upE (by omega), q_upE (by omega), q_upV]
    have s22 : (upR (upR (upR (upR (upR R 1 (10 + m) (nI kk)) 1 (16 + m) (nI v)) 1 (22 + m) (nI pc)) 1 (28 + m) (nI wt)) 1 0 (nI (m + 1))) 1 (22 + m) = nI pc := by rw [q_upE (by omega), q_upE (by omega), q_upV]
    have s28 : (upR (upR (upR (upR (upR R 1 (10 + m) (nI kk)) 1 (16 + m) (nI v)) 1 (22 + m) (nI pc)) 1 (28 + m) (nI wt)) 1 0 (nI (m + 1))) 1 (28 + m) = nI wt := by rw [q_upE (by omega), q_upV]
    have s0 : (upR (upR (upR (upR (upR R 1 (10 + m) (nI kk)) 1 (16 + m) (nI v)) 1 (22 + m) (nI pc)) 1 (28 + m) (nI wt)) 1 0 (nI (m + 1))) 1 0 = nI (m + 1) := q_upV
    have rq : ∀ j, j ≠ 1 → (upR (upR (upR (upR (upR R 1 (10 + m) (nI kk)) 1 (16 + m) (nI v)) 1 (22 + m) (nI pc)) 1 (28 + m) (nI wt)) 1 0 (nI (m + 1))) j = R j := fun j hj => by rw [q_upN hj, q_upN hj, q_upN hj, q_upN hj, q_upN hj]
    generalize (upR (upR (upR (upR (upR R 1 (10 + m) (nI kk)) 1 (16 + m) (nI v)) 1 (22 + m) (nI pc)) 1 (28 + m) (nI wt)) 1 0 (nI (m + 1))) = R' at S s10 s16 s22 s28 s0 rq ⊢
    have hpow : 2 ^ (m + 1) = 2 ^ m + 2 ^ m := by rw [Nat.pow_succ]; omega
    have hWq : isW (addW E q (clsOf (nI kk)) (wv (nI kk) (F 1 5) (nI v) (nI pc) (nI wt))) (R' 1) m q := by
      refine ⟨?_, ?_, ?_, ?_, ?_, ?_, ?_⟩
      · show (if q = q then true else _) = true
        rw [if_pos rfl]
      · show (if q = q then clsOf (nI kk) else _) = _
        rw [if_pos rfl, s10]
      · show (if q = q then wv (nI kk) (F 1 5) (nI v) (nI pc) (nI wt) else _) 0 = _
        rw [if_pos rfl, s10]; rfl
      · show (if q = q then wv (nI kk) (F 1 5) (nI v) (nI pc) (nI wt) else _) 1 = _
        rw [if_pos rfl, ← y1']; rfl
      · show (if q = q then wv (nI kk) (F 1 5) (nI v) (nI pc) (nI wt) else _) 2 = _
        rw [if_pos rfl, s16]; rfl
      · show (if q = q then wv (nI kk) (F 1 5) (nI v) (nI pc) (nI wt) else _) 3 = _
        rw [if_pos rfl, s22]; rfl
      · show (if q = q then wv (nI kk) (F 1 5) (nI v) (nI pc) (nI wt) else _) 4 = _
        rw [if_pos rfl, s28]; rfl
    rw [show (F 1 5).toNatClampNeg = m by rw [y1']; exact nI_clamp (by omega)]
    refine ⟨m + 1, k, r, b, t, w, a, L, be, he, oi, ⟨⟨⟨by omega, n2, n3, n4, n5, n6, by omega⟩, ⟨s0, ?_⟩, ⟨by rw [S 1 (by decide) (by omega) (by omega) (by omega) (by omega)]; exact y2, by rw [f1 3 (by decide)]; exact y2'⟩, ⟨by rw [S 2 (by decide) (by omega) (by omega) (by omega) (by omega)]; exact y3, by rw [f1 12 (by decide)]; exact y3'⟩, ⟨by rw [S 3 (by decide) (by omega) (by omega) (by omega) (by omega)]; exact y4, by rw [f1 14 (by decide)]; exact y4'⟩, ⟨by rw [S 4 (by decide) (by omega) (by omega) (by omega) (by omega)]; exact y5, by rw [f1 1 (by decide)]; exact y5'⟩, ⟨by rw [S 8 (by decide) (by omega) (by omega) (by omega) (by omega)]; exact y6, by rw [f1 7 (by decide)]; exact y6'⟩, ⟨by rw [S 9 (by decide) (by omega) (by omega) (by omega) (by omega)]; exact y7, by rw [f1 6 (by decide)]; exact y7'⟩, by rw [S 6 (by decide) (by omega) (by omega) (by omega) (by omega), f1 8 (by decide)]; exact y8, by rw [S 7 (by decide) (by omega) (by omega) (by omega) (by omega), f1 9 (by decide)]; exact y9⟩, ⟨fun i hi => ?_, fun i hi => ?_, fun i hi => ?_⟩, ⟨fun j hj => ?_, fun j hj => ?_, fun j hj => ?_⟩, ?_⟩, ?_, ?_, Or.inl q_upV⟩
    · rw [q_upN (by decide), q_upV, y1', nI_1]
    · by_cases e : i = m
      · subst e
        exact ⟨kk, v, pc, wt, s10, s16, s22, s28, hk, hv, hpc1, hpc, hwt⟩
      · rw [S (10 + i) (by omega) (by omega) (by omega) (by omega) (by omega), S (16 + i) (by omega) (by omega) (by omega) (by omega) (by omega), S (22 + i) (by omega) (by omega) (by omega) (by omega) (by omega), S (28 + i) (by omega) (by omega) (by omega) (by omega) (by omega)]
        exact z2.1 i (by omega)
    · by_cases e : i = m
      · subst e
        exact ⟨q, q_upPs, hWq⟩
      · obtain ⟨q', g1, g2⟩ := z2.2.1 i (by omega)
        refine ⟨q', by rw [q_upPn (fun x => e x.2)]; exact g1, isW_Ex hE ?_⟩
        unfold isW at g2 ⊢
        rw [S (10 + i) (by omega) (by omega) (by omega) (by omega) (by omega), S (16 + i) (by omega) (by omega) (by omega) (by omega) (by omega), S (22 + i) (by omega) (by omega) (by omega) (by omega) (by omega), S (28 + i) (by omega) (by omega) (by omega) (by omega) (by omega)]
        exact g2
    · by_cases e : i = m
      · subst e
        rw [q_upPs]
        exact hWq.1
      · rw [q_upPn (fun x => e x.2)]
        exact all_Ex hE (z2.2.2 i hi)
    · obtain ⟨xa, xc, u1, u2, u3, u4, u5, u6, u7, u8⟩ := z3.1 j hj
      exact ⟨xa, xc, u1, by omega, u3, u4, u5, by rw [S (34 + j) (by omega) (by omega) (by omega) (by omega) (by omega)]; exact u6, u7, by rw [S (46 + j) (by omega) (by omega) (by omega) (by omega) (by omega)]; exact u8⟩
    · obtain ⟨xa, u1, u2, u3, u4⟩ := z3.2.1 j hj
      exact ⟨xa, u1, by omega, u3, by rw [S (58 + j) (by omega) (by omega) (by omega) (by omega) (by omega)]; exact u4⟩
    · obtain ⟨xc, u1, u2, u3⟩ := z3.2.2 j hj
      exact ⟨xc, u1, u2, by rw [S (70 + j) (by omega) (by omega) (by omega) (by omega) (by omega)]; exact u3⟩
    · exact Nit_cg (S 5 (by decide) (by omega) (by omega) (by omega) (by omega)) (fun j j1 j2 => S j (by omega) (by omega) (by omega) (by omega) (by omega)) (Nat.le_refl _) (Nit_Ex hE z4)
    · have im2 := Img_Ex hE im
      unfold Img at im2 ⊢
      rw [rq 2 (by decide), q_upE (show ¬ ((0 : Nat) = 0 ∧ 2 = 6) by omega), q_upN (show (0 : Nat) ≠ 1 by decide), q_upN (show (2 : Nat) ≠ 0 by decide), q_upN (show (2 : Nat) ≠ 1 by decide), q_upPk (show (9 : Nat) ≠ 8 by decide)]
      exact im2
    · unfold Trc at tr ⊢
      rw [rq 19 (by decide)]
      exact tr
