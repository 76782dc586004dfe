/-! ===== steps: image, undo ===== -/
theorem upC_n {G : Nat → Nat → Int32} {k src n q : Nat} (h : q ≠ k) : upC G k src n q = G q := by
  unfold upC va_up
  rw [if_neg h]
theorem upC_i {G : Nat → Nat → Int32} {k src n j : Nat} (h : j < n) : upC G k src n k j = G src j := by
  unfold upC va_up
  rw [if_pos rfl, pk_cpy_in (by omega) (by omega)]
  simp
theorem SR_cg {E : PE} {f f' tp tp' rs rs' rm rm' bk bk' : Nat → Int32} {pp pp' : Nat → Option Nat} {nn nn' : Nat} {s s' : Nat → Int32} {m k r b t w a : Nat} {L : List Cls} {be he oi : Nat} (h : SR E f tp rs rm bk pp nn s m k r b t w a L be he oi) (hf : ∀ j, j = 1 ∨ j = 3 ∨ j = 5 ∨ j = 6 ∨ j = 7 ∨ j = 8 ∨ j = 9 ∨ j = 12 ∨ j = 14 → f' j = f j) (htp : ∀ j, j < 100 → tp' j = tp j) (hrs : ∀ j, j < 12 → rs' j = rs j) (hrm : ∀ j, j < 12 → rm' j = rm j) (hbk : ∀ j, j < 12 → bk' j = bk j) (hpp : ∀ i, i < 6 → pp' i = pp i) (hnn : nn' = nn) (hs : ∀ j, j < 890 → s' j = s j) : SR E f' tp' rs' rm' bk' pp' nn' s' m k r b t w a L be he oi := by
  obtain ⟨z1, z2, z3, z4⟩ := h
  obtain ⟨⟨n1, n2, n3, n4, n5, n6, n7⟩, y⟩ := z1
  obtain ⟨w1, w2, w3⟩ := z3
  subst hnn
  refine ⟨⟨⟨n1, n2, n3, n4, n5, n6, n7⟩, ?_⟩, ?_, ⟨fun j hj => ?_, fun j hj => ?_, fun j hj => ?_⟩, Nit_cg (hs 5 (by omega)) (fun j j1 j2 => hs j j2) (Nat.le_refl _) z4⟩
  · rw [hf 5 (by omega), hf 3 (by omega), hf 12 (by omega), hf 14 (by omega), hf 1 (by omega), hf 7 (by omega), hf 6 (by omega), hf 8 (by omega), hf 9 (by omega), hs 0 (by omega), hs 1 (by omega), hs 2 (by omega), hs 3 (by omega), hs 4 (by omega), hs 8 (by omega), hs 9 (by omega), hs 6 (by omega), hs 7 (by omega)]
    exact y
  · have h2 := Ppl_cg (s' := s') (fun j j1 j2 => hs j (by omega)) n1 z2
    exact ⟨h2.1, fun i hi => by rw [hpp i (by omega)]; exact h2.2.1 i hi, fun i hi => by rw [hpp i hi]; exact h2.2.2 i hi⟩
  · rw [hrs j (by omega), hrm j (by omega), hs (34 + j) (by omega), hs (46 + j) (by omega)]; exact w1 j hj
  · rw [hbk j (by omega), hs (58 + j) (by omega)]; exact w2 j hj
  · rw [htp j (by omega), hs (70 + j) (by omega)]; exact w3 j hj
theorem copyk {n m : Nat} {E : PE} {F G : Nat → Nat → Int32} {P : Nat → Nat → Option Nat} {N : Nat → Nat} (hn : 1000 ≤ n) (hP : ∀ i, i < 6 → Option.all (eV E) (P 8 i) = true) :
    ∃ (F' G' : Nat → Nat → Int32) (P' : Nat → Nat → Option Nat), p_St_copyFrom_k n E F G P N = some (F', G', P', upN N 2 (N 1)) ∧ (∀ q, q ≠ 2 → F' q = F q) ∧ (∀ j, j = 1 ∨ j = 3 ∨ j = 5 ∨ j = 6 ∨ j = 7 ∨ j = 8 ∨ j = 9 ∨ j = 12 ∨ j = 14 → F' 2 j = F 1 j) ∧ (∀ q, q ≠ 7 → q ≠ 12 → q ≠ 14 → q ≠ 16 → G' q = G q) ∧ (∀ j, j < 100 → G' 7 j = G 6 j) ∧ (∀ j, j < 12 → G' 12 j = G 11 j ∧ G' 14 j = G 13 j ∧ G' 16 j = G 15 j) ∧ (∀ q, q ≠ 9 → P' q = P q) ∧ (∀ i, i < 6 → P' 9 i = P 8 i) := by
  have loop : ∀ (F0 G0 : Nat → Nat → Int32) (N0 : Nat → Nat), ∃ P' : Nat → Nat → Option Nat, l_St_copyFrom_k_41 n E n 0 F0 G0 P N0 = some (F0, G0, P', N0) ∧ (∀ q, q ≠ 9 → P' q = P q) ∧ ∀ i, i < 6 → P' 9 i = P 8 i := by
    intro F0 G0 N0
    obtain ⟨z, h1, P', h2, h3, h4⟩ := q_lp (fun k i (u : Nat → Nat → Option Nat) => l_St_copyFrom_k_41 n E k (nI i) F0 G0 u N0) 6 (fun i u => (∀ q, q ≠ 9 → u q = P q) ∧ ∀ j, j < i → u 9 j = P 8 j) (fun z => ∃ P', z = (F0, G0, P', N0) ∧ (∀ q, q ≠ 9 → P' q = P q) ∧ ∀ i, i < 6 → P' 9 i = P 8 i) (fun k u hu => ⟨(F0, G0, u, N0), rfl, u, rfl, hu⟩) (fun k i u hi hu => by
      have hx : ix (nI i) 6 := nI_in hi (by omega)
      show ∃ a', l_St_copyFrom_k_41 n E (k + 1) (nI i) F0 G0 u N0 = l_St_copyFrom_k_41 n E k (nI (i + 1)) F0 G0 a' N0 ∧ _
      rw [l_St_copyFrom_k_41, if_neg (show ¬ (6 : Int32) ≤ nI i from nI_ge (b := 6) hi (by omega)), if_pos hx, Option.bind_some, if_pos hx, nI_clamp (by omega), hu.1 8 (by decide), if_pos (hP i hi), nI_1]
      refine ⟨_, rfl, fun q hq => by rw [q_upPk hq]; exact hu.1 q hq, fun j hj => ?_⟩
      by_cases e : j = i
      · subst e; exact q_upPs
      · rw [q_upPn (fun q => e q.2)]; exact hu.2 j (by omega)) 0 P n (by omega) (by omega) ⟨fun _ _ => rfl, fun j hj => by omega⟩
    exact ⟨P', by rw [show l_St_copyFrom_k_41 n E n 0 F0 G0 P N0 = some z from h1, h2], h3, h4⟩
  unfold p_St_copyFrom_k
  obtain ⟨P', l1, l2, l3⟩ := loop (upR (upR F 2 1 (F 1 1)) 2 3 ((upR F 2 1 (F 1 1)) 1 3)) (upC G 7 6 100) (upN N 2 (N 1))
  rw [l1, Option.bind_some]
  dsimp only
  simp only [q_upN (show (1 : Nat) ≠ 2 by decide)]
  refine ⟨_, _, _, rfl, fun q hq => by simp only [q_upN hq], fun j hj => ?_, fun q q1 q2 q3 q4 => by rw [upC_n q4, upC_n q3, upC_n q2, upC_n q1], fun j hj => ?_, fun j hj => ⟨?_, ?_, ?_⟩, l2, l3⟩
  · simp only [q_upS]
    rcases hj with rfl | rfl | rfl | rfl | rfl | rfl | rfl | rfl | rfl <;> simp [upd]
  · rw [upC_n (by decide), upC_n (by decide), upC_n (by decide), upC_i hj]
  · rw [upC_n (by decide), upC_n (by decide), upC_i hj, upC_n (by decide)]
  · rw [upC_n (by decide), upC_i hj, upC_n (by decide), upC_n (by decide)]
  · rw [upC_i hj, upC_n (by decide), upC_n (by decide), upC_n (by decide)]
theorem copyad2 {n m : Nat} {E : PE} {F G : Nat → Nat → Int32} {P : Nat → Nat → Option Nat} {N : Nat → Nat} (hn : 1000 ≤ n) (hP : ∀ i, i < 6 → Option.all (eV E) (P 9 i) = true) :
    ∃ (F' G' : Nat → Nat → Int32) (P' : Nat → Nat → Option Nat), p_St_copyFrom_ad2 n E F G P N = some (F', G', P', upN N 1 (N 2)) ∧ (∀ q, q ≠ 1 → F' q = F q) ∧ (∀ j, j = 1 ∨ j = 3 ∨ j = 5 ∨ j = 6 ∨ j = 7 ∨ j = 8 ∨ j = 9 ∨ j = 12 ∨ j = 14 → F' 1 j = F 2 j) ∧ (∀ q, q ≠ 6 → q ≠ 11 → q ≠ 13 → q ≠ 15 → G' q = G q) ∧ (∀ j, j < 100 → G' 6 j = G 7 j) ∧ (∀ j, j < 12 → G' 11 j = G 12 j ∧ G' 13 j = G 14 j ∧ G' 15 j = G 16 j) ∧ (∀ q, q ≠ 8 → P' q = P q) ∧ (∀ i, i < 6 → P' 8 i = P 9 i) := by
  have loop : ∀ (F0 G0 : Nat → Nat → Int32) (N0 : Nat → Nat), ∃ P' : Nat → Nat → Option Nat, l_St_copyFrom_ad2_41 n E n 0 F0 G0 P N0 = some (F0, G0, P', N0) ∧ (∀ q, q ≠ 8 → P' q = P q) ∧ ∀ i, i < 6 → P' 8 i = P 9 i := by
    intro F0 G0 N0
    obtain ⟨z, h1, P', h2, h3, h4⟩ := q_lp (fun k i (u : Nat → Nat → Option Nat) => l_St_copyFrom_ad2_41 n E k (nI i) F0 G0 u N0) 6 (fun i u => (∀ q, q ≠ 8 → u q = P q) ∧ ∀ j, j < i → u 8 j = P 9 j) (fun z => ∃ P', z = (F0, G0, P', N0) ∧ (∀ q, q ≠ 8 → P' q = P q) ∧ ∀ i, i < 6 → P' 8 i = P 9 i) (fun k u hu => ⟨(F0, G0, u, N0), rfl, u, rfl, hu⟩) (fun k i u hi hu => by
      have hx : ix (nI i) 6 := nI_in hi (by omega)
      show ∃ a', l_St_copyFrom_ad2_41 n E (k + 1) (nI i) F0 G0 u N0 = l_St_copyFrom_ad2_41 n E k (nI (i + 1)) F0 G0 a' N0 ∧ _
      rw [l_St_copyFrom_ad2_41, if_neg (show ¬ (6 : Int32) ≤ nI i from nI_ge (b := 6) hi (by omega)), if_pos hx, Option.bind_some, if_pos hx, nI_clamp (by omega), hu.1 9 (by decide), if_pos (hP i hi), nI_1]
      refine ⟨_, rfl, fun q hq => by rw [q_upPk hq]; exact hu.1 q hq, fun j hj => ?_⟩
      by_cases e : j = i
      · subst e; exact q_upPs
      · rw [q_upPn (fun q => e q.2)]; exact hu.2 j (by omega)) 0 P n (by omega) (by omega) ⟨fun _ _ => rfl, fun j hj => by omega⟩
    exact ⟨P', by rw [show l_St_copyFrom_ad2_41 n E n 0 F0 G0 P N0 = some z from h1, h2], h3, h4⟩
  unfold p_St_copyFrom_ad2
  obtain ⟨P', l1, l2, l3⟩ := loop (upR (upR F 1 1 (F 2 1)) 1 3 ((upR F 1 1 (F 2 1)) 2 3)) (upC G 6 7 100) (upN N 1 (N 2))
  rw [l1, Option.bind_some]
  dsimp only
  simp only [q_upN (show (2 : Nat) ≠ 1 by decide)]
  refine ⟨_, _, _, rfl, fun q hq => by simp only [q_upN hq], fun j hj => ?_, fun q q1 q2 q3 q4 => by rw [upC_n q4, upC_n q3, upC_n q2, upC_n q1], fun j hj => ?_, fun j hj => ⟨?_, ?_, ?_⟩, l2, l3⟩
  · simp only [q_upS]
    rcases hj with rfl | rfl | rfl | rfl | rfl | rfl | rfl | rfl | rfl <;> simp [upd]
  · rw [upC_n (by decide), upC_n (by decide), upC_n (by decide), upC_i hj]
  · rw [upC_n (by decide), upC_n (by decide), upC_i hj, upC_n (by decide)]
  · rw [upC_n (by decide), upC_i hj, upC_n (by decide), upC_n (by decide)]
  · rw [upC_i hj, upC_n (by decide), upC_n (by decide), upC_n (by decide)]
theorem imageM {n : Nat} {I : Nat → Int32} {R : Nat → Nat → Int32} (hn : 1000 ≤ n) : ∃ R', l_Md_image_2 n n 0 I R = some (I, R') ∧ (∀ q, q ≠ 2 → R' q = R q) ∧ ∀ j, j < 890 → R' 2 j = R 1 j := by
  obtain ⟨z, h1, R', h2, h3, h4⟩ := q_lp (fun k i (u : Nat → Nat → Int32) => l_Md_image_2 n k (nI i) I u) 890 (fun i u => (∀ q, q ≠ 2 → u q = R q) ∧ ∀ j, j < i → u 2 j = R 1 j) (fun z => ∃ R', z = (I, R') ∧ (∀ q, q ≠ 2 → R' q = R q) ∧ ∀ j, j < 890 → R' 2 j = R 1 j) (fun k u hu => by
      refine ⟨(I, u), ?_, u, rfl, hu⟩
      show l_Md_image_2 n (k + 1) (nI 890) I u = _
      rw [l_Md_image_2, if_pos (show (890 : Int32) ≤ nI 890 by decide)]) (fun k i u hi hu => by
      have hx : ix (nI i) 890 := nI_in hi (by omega)
      show ∃ a', l_Md_image_2 n (k + 1) (nI i) I u = l_Md_image_2 n k (nI (i + 1)) I a' ∧ _
      rw [l_Md_image_2, if_neg (show ¬ (890 : Int32) ≤ nI i from nI_ge (b := 890) hi (by omega)), if_pos hx, if_pos hx, nI_clamp (by omega), nI_1]
      refine ⟨_, rfl, fun q hq => by rw [q_upN hq]; exact hu.1 q hq, fun j hj => ?_⟩
      by_cases e : j = i
      · subst e; rw [q_upV, hu.1 1 (by decide)]
      · rw [q_upE (fun q => e q.2)]; exact hu.2 j (by omega)) 0 R n (by omega) (by omega) ⟨fun _ _ => rfl, fun j hj => by omega⟩
  exact ⟨R', by rw [show l_Md_image_2 n n 0 I R = some z from h1, h2], h3, h4⟩
theorem undoM {n : Nat} {I : Nat → Int32} {R : Nat → Nat → Int32} (hn : 1000 ≤ n) : ∃ R', l_Md_undo_12 n n 0 I R = some (I, R') ∧ (∀ q, q ≠ 1 → R' q = R q) ∧ ∀ j, j < 890 → R' 1 j = R 2 j := by
  obtain ⟨z, h1, R', h2, h3, h4⟩ := q_lp (fun k i (u : Nat → Nat → Int32) => l_Md_undo_12 n k (nI i) I u) 890 (fun i u => (∀ q, q ≠ 1 → u q = R q) ∧ ∀ j, j < i → u 1 j = R 2 j) (fun z => ∃ R', z = (I, R') ∧ (∀ q, q ≠ 1 → R' q = R q) ∧ ∀ j, j < 890 → R' 1 j = R 2 j) (fun k u hu => by
      refine ⟨(I, u), ?_, u, rfl, hu⟩
      show l_Md_undo_12 n (k + 1) (nI 890) I u = _
      rw [l_Md_undo_12, if_pos (show (890 : Int32) ≤ nI 890 by decide)]) (fun k i u hi hu => by
      have hx : ix (nI i) 890 := nI_in hi (by omega)
      show ∃ a', l_Md_undo_12 n (k + 1) (nI i) I u = l_Md_undo_12 n k (nI (i + 1)) I a' ∧ _
      rw [l_Md_undo_12, if_neg (show ¬ (890 : Int32) ≤ nI i from nI_ge (b := 890) hi (by omega)), if_pos hx, if_pos hx, nI_clamp (by omega), nI_1]
      refine ⟨_, rfl, fun q hq => by rw [q_upN hq]; exact hu.1 q hq, fun j hj => ?_⟩
      by_cases e : j = i
      · subst e; rw [q_upV, hu.1 2 (by decide)]
      · rw [q_upE (fun q => e q.2)]; exact hu.2 j (by omega)) 0 R n (by omega) (by omega) ⟨fun _ _ => rfl, fun j hj => by omega⟩
  exact ⟨R', by rw [show l_Md_undo_12 n n 0 I R = some z from h1, h2], h3, h4⟩
theorem st_image {n : Nat} {E : PE} {F G : Nat → Nat → Int32} {P : Nat → Nat → Option Nat} {N : Nat → Nat} {I : Nat → Int32} {R : Nat → Nat → Int32} (hn : 300000000 ≤ n) (h : RL E F G P N I R) : OKi E (p_LB_image n E F G P N) (p_Md_image n I R) := by
  obtain ⟨m, k, r, b, t, w, a, L, be, he, oi, h⟩ := h
  obtain ⟨h1, im, tr, sl⟩ := h
  obtain ⟨hm, h0, hB, hL, hTl⟩ := SR_go h1
  obtain ⟨-, ⟨q0, f5⟩, -⟩ := h1.1
  obtain ⟨F1, G1, P1, a1, a2, a3, a4, a5, a6, a7, a8⟩ := copyk (n := n) (m := m) (E := E) (F := F) (G := G) (P := P) (N := N) (by omega) h1.2.1.2.2
  obtain ⟨R1, b1, b2, b3⟩ := imageM (n := n) (I := I) (R := R) (by omega)
  have n1 : upN N 2 (N 1) 1 = N 1 := by simp [upN, va_up]
  have n2 : upN N 2 (N 1) 2 = N 1 := by simp [upN, va_up]
  have n3 : upN N 2 (N 1) 3 = N 3 := by simp [upN, va_up]
  have f1 : (upR F1 0 2 1) 1 = F 1 := by rw [q_upN (by decide), a2 1 (by decide)]
  have f2 : (upR F1 0 2 1) 2 = F1 2 := q_upN (by decide)
  have f3 : (upR F1 0 2 1) 3 = F 3 := by rw [q_upN (by decide), a2 3 (by decide)]
  have g := fun q (q7 : q ≠ 7) (q12 : q ≠ 12) (q14 : q ≠ 14) (q16 : q ≠ 16) => a4 q q7 q12 q14 q16
  refine ⟨nI m, upR F1 0 2 1, G1, P1, upN N 2 (N 1), upd I 3 1, R1, ?_, ?_, ⟨m, k, r, b, t, w, a, L, be, he, oi, ?_, ⟨true, q_upV, pk_us, fun _ => ⟨m, k, r, b, t, w, a, L, be, he, oi, ?_⟩⟩, ?_, ?_⟩⟩
  · unfold p_LB_image
    rw [a1, Option.bind_some]
    dsimp only
    rw [f1, f5]
  · unfold p_Md_image
    rw [b1, Option.bind_some]
    dsimp only
    rw [b2 1 (by decide), q0]
  · rw [f1, n1, b2 1 (by decide), a7 8 (by decide), g 6 (by decide) (by decide) (by decide) (by decide), g 11 (by decide) (by decide) (by decide) (by decide), g 13 (by decide) (by decide) (by decide) (by decide), g 15 (by decide) (by decide) (by decide) (by decide)]
    exact h1
  · rw [f2]
    exact SR_cg h1 a3 a5 (fun j hj => (a6 j hj).1) (fun j hj => (a6 j hj).2.1) (fun j hj => (a6 j hj).2.2) a8 n2 b3
  · unfold Trc at tr ⊢
    rw [g 5 (by decide) (by decide) (by decide) (by decide), b2 19 (by decide), pk_un (by decide)]
    exact tr
  · refine Stl_cg (fun j j1 j2 => by rw [b2 1 (by decide)]) hm ?_ f3 (a7 10 (by decide)) n3 (fun q hq => g q (by omega) (by omega) (by omega) (by omega)) sl
    rw [q_upE (by omega), a2 0 (by decide)]
theorem st_undo {n : Nat} {E : PE} {F G : Nat → Nat → Int32} {P : Nat → Nat → Option Nat} {N : Nat → Nat} {I : Nat → Int32} {R : Nat → Nat → Int32} (hn : 300000000 ≤ n) (h : RL E F G P N I R) : OKi E (p_LB_undo n E F G P N) (p_Md_undo n I R) := by
  have h' := h
  obtain ⟨m0, k0, r0, b0, t0, w0, a0, L0, be0, he0, oi0, h⟩ := h
  obtain ⟨h1, ⟨im, i1, i2, i3⟩, tr, sl⟩ := h
  unfold p_LB_undo p_Md_undo
  rw [i1, i2]
  cases im
  · rw [if_pos (show b2i false = 0 from rfl), if_pos (show b2i false = 0 from rfl)]
    exact ⟨-3, F, G, P, N, I, R, rfl, rfl, h'⟩
  · rw [if_neg (show ¬ b2i true = 0 by decide), if_neg (show ¬ b2i true = 0 by decide)]
    obtain ⟨m, k, r, b, t, w, a, L, be, he, oi, hI⟩ := i3 rfl
    obtain ⟨hm, h0, hB, hL, hTl⟩ := SR_go hI
    obtain ⟨-, ⟨q0, f5⟩, -⟩ := hI.1
    obtain ⟨F1, G1, P1, a1, a2, a3, a4, a5, a6, a7, a8⟩ := copyad2 (n := n) (m := m) (E := E) (F := F) (G := G) (P := P) (N := N) (by omega) hI.2.1.2.2
    obtain ⟨R1, b1, b2, b3⟩ := undoM (n := n) (I := I) (R := R) (by omega)
    have n1 : upN N 1 (N 2) 1 = N 2 := by simp [upN, va_up]
    have n2 : upN N 1 (N 2) 2 = N 2 := by simp [upN, va_up]
    have f1 : (upR F1 0 6 1) 1 = F1 1 := q_upN (by decide)
    have f2 : (upR F1 0 6 1) 2 = F 2 := by rw [q_upN (by decide), a2 2 (by decide)]
    have g := fun q (q6 : q ≠ 6) (q11 : q ≠ 11) (q13 : q ≠ 13) (q15 : q ≠ 15) => a4 q q6 q11 q13 q15
    refine ⟨nI m, upR F1 0 6 1, G1, P1, upN N 1 (N 2), I, R1, ?_, ?_, ⟨m, k, r, b, t, w, a, L, be, he, oi, ?_, ⟨true, ?_, i2, fun _ => ⟨m, k, r, b, t, w, a, L, be, he, oi, ?_⟩⟩, ?_, Or.inl q_upV⟩⟩
    · rw [a1, Option.bind_some]
      dsimp only
      rw [f1, a3 5 (by omega), f5]
    · rw [b1, Option.bind_some]
      dsimp only
      rw [b3 0 (by omega), q0]
    · rw [f1]
      exact SR_cg hI a3 a5 (fun j hj => (a6 j hj).1) (fun j hj => (a6 j hj).2.1) (fun j hj => (a6 j hj).2.2) a8 n1 b3
    · rw [q_upE (by omega), a2 0 (by decide)]
      exact i1
    · rw [f2, n2, b2 2 (by decide), a7 9 (by decide), g 7 (by decide) (by decide) (by decide) (by decide), g 12 (by decide) (by decide) (by decide) (by decide), g 14 (by decide) (by decide) (by decide) (by decide), g 16 (by decide) (by decide) (by decide) (by decide)]
      exact hI
    · unfold Trc at tr ⊢
      rw [g 5 (by decide) (by decide) (by decide) (by decide), b2 19 (by decide)]
      exact tr
