/-! ===== step: quicker ===== -/
theorem wk_ct {m st : Nat} {cn : Nat → Nat → Bool} {ct ct' : Nat → Nat → Nat} : ∀ (i p q c : Nat), wk (CE m st cn ct 0) i p q c → ∃ c', wk (CE m st cn ct' 0) i p q c'
  | 0, p, q, c, h => ⟨0, h.1, rfl⟩
  | i + 1, p, q, c, h => by
    obtain ⟨y, d, c', a1, a2, a3⟩ := h
    obtain ⟨c2, h2⟩ := wk_ct (ct' := ct') i y q c' a2
    obtain ⟨b1, g, b2, b3, b4, b5, b6, b7, b8⟩ := a1
    exact ⟨ct' g ((p + 0) % 2) + c2, y, ct' g ((p + 0) % 2), c2, ⟨b1, g, b2, b3, b4, b5, b6, b7, rfl⟩, h2, rfl⟩
/-- least, by both, from what it needs alone -/
theorem least0 {n m w a g st : Nat} {v3 : Int32} {E : PE} {F G : Nat → Nat → Int32} {P : Nat → Nat → Option Nat} {N : Nat → Nat} {s : Nat → Int32} {I : Nat → Int32} {R : Nat → Nat → Int32} {L : List Cls} {be he oi : Nat} (hn : 300000000 ≤ n) (hs : R 1 = s) (hm : m ≤ 6) (h0 : s 0 = nI m) (hB : VB s m) (hL : NgM s L) (hTl : tlM s be he oi) (f6 : F 1 6 = nI a) (f7 : F 1 7 = nI w) (n6 : w ≤ 1) (n7 : a < 2 ^ m) (hV : GoV E F P N s m L be he) (hT : TbV G s m L be he) (hst : byI m v3 st) (hst6 : st < 64) (hg : g < 64) :
    ∃ v G' I' R', p_LB_leastFor n E (nI g) (nI st) F G P N = some (orN v, F, G', P, N) ∧ p_Md_leastFrom n (nI (a + 64 * w)) (nI g) v3 I R = some (nI v, I', R') ∧ (v = 1000000 ∨ v ≤ 134400) ∧ (v = 1000000 ↔ ¬ ∃ i q c, wk (CE m st (cnS s m L be he) (mnS s m L) 0) i (2 * a + w) q c ∧ q / 2 &&& g = g) ∧ Lw I I' R R' ∧ ∀ k, k ≠ 24 → k ≠ 25 → G' k = G k := by
  have h64 := q_p2 m (by omega)
  have ha6 : a < 64 := by omega
  have hpk := pk2_aw ha6 n6
  have hp0 : 2 * a + w < 2 * 2 ^ m := by omega
  obtain ⟨v, I1, R1, a1, a2, a3, a4⟩ := leastFromM (n := n) (st := st) (k0 := a + 64 * w) (g := g) (I := I) hn hL hTl hs hm h0 hB hst (by omega) (by rw [hpk]; exact hp0) hg
  rw [hpk] at a4
  obtain ⟨G1, M, b1, b2, b3, b4⟩ := measToC (n := n) (cnt := false) (E := E) (F := F) (G0 := G) (P := P) (N := N) (by omega) hm hst6 hg hV.2.1 (Tb_W hT) (fun g w => mnS_le hB hL.1 hL.2.1)
  obtain ⟨c1, c2, c3⟩ := cmpL hp0 b4 (b3 _ hp0).2 a4
  have hbd : v = 1000000 ∨ v ≤ 134400 := by
    by_cases e : v = 1000000
    · exact Or.inl e
    · have e2 := c3 e
      have e3 : M (2 * a + w) < 1073741824 := by
        have := (b3 _ hp0).2
        rcases Nat.lt_or_ge (M (2 * a + w)) 1073741824 with h9 | h9
        · exact h9
        · exact absurd (c2.mpr (by omega)) e
      have := (b4.1 _ hp0 e3).1
      exact Or.inr (by omega)
  refine ⟨v, G1, I1, R1, ?_, a1, hbd, ⟨fun e => ?_, fun hno => ?_⟩, a2, b2⟩
  · unfold p_LB_leastFor
    rw [show p_Se_measureTo n E (nI g) (nI st) 0 F G P N = some (F, G1, P, N) from b1, Option.bind_some]
    dsimp only
    rw [placeC f6 f7 ha6 n6]
    show (p_Se_measureAt n E F G1 P N (nI (2 * a + w))).bind _ = _
    rw [measAtC (show 2 * 2 ^ m ≤ 128 by omega) hp0 b3, c1]
    rfl
  · rintro ⟨i, q, c, hw, hq⟩
    have hq2 := wk_q i _ _ _ hp0 hw
    have := b4.2 i q (2 * a + w) c hq2 hq (wk_rev (fun p q d h => CE_rev h) i _ _ _ hw)
    have := c2.mp e
    omega
  · rcases a4.2.2 with h | ⟨i, q, h1, h2⟩
    · exact h
    · exact absurd ⟨i, q, v, h1, h2⟩ hno
theorem NgM_cg {s s' : Nat → Int32} {L : List Cls} (h5 : s' 5 = s 5) (h : ∀ j, 170 ≤ j → j < 890 → s' j = s j) (hL : NgM s L) : NgM s' L := by
  refine ⟨hL.1, hL.2.1, ?_⟩
  rw [h5]
  rcases hL.2.2 with b | ⟨act, b1, b2, b3, b4, b5⟩
  · exact Or.inl b
  · exact Or.inr ⟨act, b1, b2, by rw [h _ (by omega) (by omega)]; exact b3, b4, fun j hj => by rw [h _ (by omega) (by omega)]; exact b5 j hj⟩
theorem tlM_cg {s s' : Nat → Int32} {be he oi : Nat} (h5 : s' 5 = s 5) (h : ∀ j, 170 ≤ j → j < 890 → s' j = s j) (hT : tlM s be he oi) : tlM s' be he oi := by
  refine ⟨hT.1, hT.2.1, hT.2.2.1, ?_⟩
  rw [h5]
  rcases hT.2.2.2 with b | ⟨act, b1, b2, b3, b4, b5⟩
  · exact Or.inl b
  · exact Or.inr ⟨act, b1, b2, by rw [h _ (by omega) (by omega)]; exact b3, by rw [h _ (by omega) (by omega)]; exact b4, by rw [h _ (by omega) (by omega)]; exact b5⟩
/-- another pace of p -/
theorem pc_fcs {s : Nat → Int32} {p i a w : Nat} {x : Int32} (hp : p < 6) (hi : i < 6) : fcs (upd s (22 + p) x) i a w = fcs s i a w := by
  funext k
  unfold fcs
  rw [pk_un (by omega), pk_un (by omega)]
theorem pc_hv {s : Nat → Int32} {p i a : Nat} {x : Int32} (hp : p < 6) (hi : i < 6) : ∀ j, j ≤ 6 → hv (upd s (22 + p) x) i a j = hv s i a j
  | 0, _ => by simp [hv]
  | j + 1, hj => by
    rw [hv_s, hv_s, pc_hv hp hi j (by omega)]
    unfold hvq
    rw [pk_un (by omega), pk_un (by omega)]
theorem pc_ld {s : Nat → Int32} {p i a : Nat} {x : Int32} (hp : p < 6) : ∀ j, j ≤ 6 → ld (upd s (22 + p) x) i a j = ld s i a j
  | 0, _ => by simp [ld]
  | j + 1, hj => by
    rw [ld_s, ld_s, pc_ld hp j (by omega)]
    unfold ldq
    rw [pk_un (by omega)]
theorem pc_tk {s : Nat → Int32} {m p i a w : Nat} {x : Int32} {L : List Cls} (hm : m ≤ 6) (hp : p < 6) (hi : i < m) (hne : i ≠ p) : tkS (upd s (22 + p) x) m L i a w = tkS s m L i a w := by
  unfold tkS
  rw [pc_fcs hp (by omega), pc_hv hp (by omega) m hm, pc_ld hp m hm, pk_un (by omega), pk_un (by omega), pk_un (by omega)]
theorem pc_mn {s : Nat → Int32} {m p a w : Nat} {x : Int32} {L : List Cls} (hm : m ≤ 6) (hp : p < 6) (hb : bt a p = false) : mnS (upd s (22 + p) x) m L a w = mnS s m L a w := mxB_cg m (fun i hi hbi => pc_tk hm hp hi (fun e => by rw [e, hb] at hbi; exact absurd hbi (by decide)))
theorem pc_wt {s : Nat → Int32} {p a : Nat} {x : Int32} (hp : p < 6) : ∀ i, i ≤ 6 → wtS (upd s (22 + p) x) a i = wtS s a i
  | 0, _ => rfl
  | i + 1, hi => by
    simp only [wtS]
    rw [pc_wt hp i (by omega), pk_un (by omega)]
theorem pc_br {s : Nat → Int32} {p a w : Nat} {x : Int32} {L : List Cls} (hp : p < 6) : ∀ i, i ≤ 6 → brS (upd s (22 + p) x) L a w i = brS s L a w i
  | 0, _ => by simp [brS]
  | i + 1, hi => by
    rw [brS_s, brS_s, pc_br hp i (by omega), pc_fcs hp (by omega)]
theorem pc_cn {s : Nat → Int32} {m p be he a w : Nat} {x : Int32} {L : List Cls} (hm : m ≤ 6) (hp : p < 6) : cnS (upd s (22 + p) x) m L be he a w = cnS s m L be he a w := by
  unfold cnS
  rw [pc_wt hp m hm, pc_br hp m hm]
/-- one put instead, and the tables laid anew -/
theorem putC {n m p q be he : Nat} {x : Int32} {E : PE} {F G : Nat → Nat → Int32} {P : Nat → Nat → Option Nat} {N : Nat → Nat} {s : Nat → Int32} {L : List Cls} (hn : 1000 ≤ n) (hm : m ≤ 6) (hp : p < m) (hV : GoV E F P N s m L be he) (hT : TbV G s m L be he) (hB : VB (upd s (22 + p) x) m) (hq : isW E (upd s (22 + p) x) p q) :
    ∃ G', p_Go_putInstead n E q F G P N = some (F, G', upP P 10 p (some q), N) ∧ GoV E F (upP P 10 p (some q)) N (upd s (22 + p) x) m L be he ∧ TbV G' (upd s (22 + p) x) m L be he ∧ ∀ k, k ≠ 17 → k ≠ 19 → k ≠ 20 → G' k = G k := by
  have hpw := q_pw p (by omega)
  have hV2 : GoV E F (upP P 10 p (some q)) N (upd s (22 + p) x) m L be he := by
    obtain ⟨v1, v2, ⟨lb, v3, v4, v5⟩, v6, v7⟩ := hV
    refine ⟨v1, v2, ⟨lb, v3, v4, fun i hi => by rw [v5 i hi, pk_un (by omega)]⟩, fun i hi => ?_, v7⟩
    by_cases e : i = p
    · subst e; exact ⟨q, q_upPs, hq⟩
    · obtain ⟨q', g1, g2⟩ := v6 i hi
      refine ⟨q', by rw [q_upPn (fun h => e h.2)]; exact g1, ?_⟩
      unfold isW at g2 ⊢
      rw [pk_un (by omega), pk_un (by omega), pk_un (by omega), pk_un (by omega)]
      exact g2
  obtain ⟨G', a1, a2, a3⟩ := layMinC (G := G) (so := 2 ^ p) hV2 hB hm hpw hn
  refine ⟨G', ?_, hV2, fun a w h1 h2 h3 => ⟨?_, ?_⟩, a3⟩
  · unfold p_Go_putInstead
    rw [if_pos hq.1, hq.2.2.2.1, if_neg (nI_pos (by omega)), hV.1, if_pos (nI_lt hp (by omega)), if_pos (nI_in (by omega) (by omega)), nI_clamp (by omega), q_one p (by omega), a1]
    rfl
  · rw [a2 a w h1 h2 h3]
    by_cases e : a &&& 2 ^ p = 0
    · rw [if_pos e, pc_mn hm (by omega) (q_and2.mp e)]
      exact (hT a w h1 h2 h3).1
    · rw [if_neg e]
  · rw [a3 (22 + w) (by omega) (by omega) (by omega), pc_cn hm (by omega)]
    exact (hT a w h1 h2 h3).2
theorem st_quicker {n : Nat} {v1 : Int32} {E : PE} {F G : Nat → Nat → Int32} {P : Nat → Nat → Option Nat} {N : Nat → Nat} {I : Nat → Int32} {R : Nat → Nat → Int32} (hn : 300000000 ≤ n) (h : RL E F G P N I R) : ∃ z, p_LB_quicker n E v1 F G P N = some z ∧ (∀ w, z = Sum.inr w → ∀ q, eV E q = false → ∃ w2, p_quick2 n E w.1 w.2.1 q w.2.2.1 w.2.2.2.1 w.2.2.2.2.1 w.2.2.2.2.2 = some w2) ∧ ∀ r u E', post_quicker n E z r u E' → ∃ I' R', p_Md_quicker n v1 I R = some (r, I', R') ∧ RL E' u.1 u.2.1 u.2.2.1 u.2.2.2 I' R' := by
  have h' := h
  obtain ⟨m, k, r, b, t, w, a, L, be, he, oi, h⟩ := h
  obtain ⟨hm, h0, hB, hL, hTl⟩ := SR_go h.1
  have h64 := q_p2 m (by omega)
  obtain ⟨⟨n1, n2, n3, n4, n5, n6, n7⟩, ⟨q0, f5⟩, -, -, -, -, ⟨q8, f7⟩, ⟨q9, f6⟩, -, -⟩ := h.1.1
  have fin : ∀ (x : Int32) (F1 G1 : Nat → Nat → Int32) (P1 : Nat → Nat → Option Nat) (N1 : Nat → Nat) (I1 : Nat → Int32) (R1 : Nat → Nat → Int32), p_LB_quicker n E v1 F G P N = some (Sum.inl (x, F1, G1, P1, N1)) → p_Md_quicker n v1 I R = some (x, I1, R1) → RL E F1 G1 P1 N1 I1 R1 → ∃ z, p_LB_quicker n E v1 F G P N = some z ∧ (∀ w, z = Sum.inr w → ∀ q, eV E q = false → ∃ w2, p_quick2 n E w.1 w.2.1 q w.2.2.1 w.2.2.2.1 w.2.2.2.2.1 w.2.2.2.2.2 = some w2) ∧ ∀ r u E', post_quicker n E z r u E' → ∃ I' R', p_Md_quicker n v1 I R = some (r, I', R') ∧ RL E' u.1 u.2.1 u.2.2.1 u.2.2.2 I' R' := by
    intro x F1 G1 P1 N1 I1 R1 g1 g2 g3
    refine ⟨_, g1, fun w hw => (by cases hw), fun r u E' hp => ?_⟩
    obtain ⟨p1, p2, p3⟩ := hp
    subst p1 p2 p3
    exact ⟨I1, R1, g2, g3⟩
  rcases walkC (n := n) (v := v1) (G := G) (N := N) (I := I) hm f5 h0 h.1.2.1 with ⟨p, q, hp, rfl, h1, h2, h3⟩ | ⟨h1, h2⟩
  · obtain ⟨kk, v, pc, wt, vk, vv, vp, vw, k6, v9, p1, p30, w9⟩ := hB p hp
    have i22 : ix (nI (22 + p)) 890 := nI_in (by omega) (by omega)
    have ed3 : eD E q 3 = nI pc := by rw [h2.2.2.2.2.2.1, vp]
    by_cases hpc : pc = 1
    · subst hpc
      refine fin 0 F G P N I R ?_ ?_ h'
      · unfold p_LB_quicker
        rw [h1, Option.bind_some]
        dsimp only [Option.elim]
        rw [if_pos h2.1, if_pos (show eD E q 3 = 1 from ed3)]
      · unfold p_Md_quicker
        rw [h3, Option.bind_some, if_neg (show ¬ (1 : Int32) = 0 by decide), show (22 : Int32) + nI p = nI (22 + p) from nI_add 22 p, if_pos i22]
        simp only [nI_clamp (show 22 + p < 2 ^ 31 by omega)]
        rw [vp, if_pos (show nI 1 = 1 from rfl)]
    · have hn1 : ¬ nI pc = 1 := fun e => hpc ((nI_eq (a := pc) (b := 1) (by omega) (by omega)).mp e)
      obtain ⟨F1, G1, P1, N1, a1, a2, a3, a4, a5, a6, a7⟩ := refreshC (n := n) h (by omega)
      have g6 : F1 1 6 = nI a := by rw [a3]; exact f6
      have g7 : F1 1 7 = nI w := by rw [a3]; exact f7
      have g5 : F1 1 5 = nI m := by rw [a3]; exact f5
      obtain ⟨x, G2, I2, R2, b1, b2, b3, b4, b5, b6⟩ := least0 (n := n) (g := 2 ^ m - 1) (st := 0) (v3 := -1) (E := E) (F := F1) (G := G1) (P := P1) (N := N1) (I := I) (R := R) hn rfl hm h0 hB hL hTl g6 g7 n6 n7 a4 a5 byI_none (by omega) (by omega)
      have er2 : R2 1 = R 1 := b5.2 1 (by decide) (by decide) (by decide) (by decide) (by decide) (by decide)
      have hRL2 : RLp E F1 G2 P1 N1 I2 R2 m k r b t w a L be he oi := RLp_Lw (RLp_G a2 (fun k _ k24 k25 => b6 k k24 k25)) b5
      have hT2 : TbV G2 (R 1) m L be he := fun x y x1 x2 x3 => by
        rw [b6 (19 + y) (by omega) (by omega), b6 (22 + y) (by omega) (by omega)]
        exact a5 x y x1 x2 x3
      have eC : p_LB_quicker n E (nI p) F G P N = (if orN x = (-5) then some (Sum.inl ((-5), F1, G2, P1, N1)) else some (Sum.inr (q, orN x, F1, G2, P1, N1))) := by
        unfold p_LB_quicker
        rw [h1, Option.bind_some]
        dsimp only [Option.elim]
        rw [if_pos h2.1, if_neg (show ¬ eD E q 3 = 1 by rw [ed3]; exact hn1), a1, Option.bind_some]
        dsimp only
        rw [q_Ceb hm g5, Option.bind_some, show p_LB_leastFor n E (nI (2 ^ m - 1)) 0 F1 G1 P1 N1 = some (orN x, F1, G2, P1, N1) from b1, Option.bind_some]
      by_cases hx : x = 1000000
      · refine fin (-5) F1 G2 P1 N1 I2 R2 ?_ ?_ hRL2.rl
        · rw [eC, if_pos ((orN_ne (by omega)).mpr hx)]
        · unfold p_Md_quicker
          rw [h3, Option.bind_some, if_neg (show ¬ (1 : Int32) = 0 by decide), show (22 : Int32) + nI p = nI (22 + p) from nI_add 22 p, if_pos i22]
          simp only [nI_clamp (show 22 + p < 2 ^ 31 by omega)]
          rw [vp, if_neg hn1, nowM q9 q8, Option.bind_some, q_Mall hm h0, Option.bind_some, b2, Option.bind_some]
          dsimp only
          rw [if_pos (show nI x = 1000000 by rw [hx]; rfl)]
      · have hx9 : x ≤ 134400 := by rcases b3 with e | e <;> omega
        have hxn : ¬ orN x = (-5) := fun e => hx ((orN_ne (by omega)).mp e)
        have hxe : orN x = nI x := by unfold orN; rw [if_neg hx]
        -- the second half
        have second : ∀ q2, eV E q2 = false → ∃ (rr : Int32) (G5 : Nat → Nat → Int32) (P5 : Nat → Nat → Option Nat) (I5 : Nat → Int32) (R5 : Nat → Nat → Int32), p_quick2 n E q (orN x) q2 F1 G2 P1 N1 = some (rr, F1, G5, P5, N1) ∧ p_Md_quicker n (nI p) I R = some (rr, I5, R5) ∧ RL (qE E q q2) F1 G5 P5 N1 I5 R5 := by
          intro q2 hq2
          have hE : Ex E (qE E q q2) := Ex_W hq2
          obtain ⟨c0, rfl⟩ : ∃ c0, pc = c0 + 1 := ⟨pc - 1, by omega⟩
          have epm : nI (c0 + 1) - 1 = nI c0 := nI_pred c0
          have hB' : VB (upd (R 1) (22 + p) (nI c0)) m := by
            intro i hi
            by_cases e : i = p
            · subst e
              rw [pk_un (by omega), pk_un (by omega), pk_us, pk_un (by omega)]
              exact ⟨kk, v, c0, wt, vk, vv, rfl, vw, k6, v9, by omega, by omega, w9⟩
            · rw [pk_un (by omega), pk_un (by omega), pk_un (by omega), pk_un (by omega)]
              exact hB i hi
          have hW2 : isW (qE E q q2) (upd (R 1) (22 + p) (nI c0)) p q2 := by
            obtain ⟨w1, w2, w3, w4, w5, w6, w7⟩ := h2
            refine ⟨?_, ?_, ?_, ?_, ?_, ?_, ?_⟩
            · show (if q2 = q2 then true else _) = true
              rw [if_pos rfl]
            · show (if q2 = q2 then clsOf (eD E q 0) else _) = _
              rw [if_pos rfl, w3, pk_un (by omega)]
            · show (if q2 = q2 then wv (eD E q 0) (eD E q 1) (eD E q 2) (eD E q 3 - 1) (eD E q 4) else _) 0 = _
              rw [if_pos rfl, pk_un (by omega), ← w3]; rfl
            · show (if q2 = q2 then wv (eD E q 0) (eD E q 1) (eD E q 2) (eD E q 3 - 1) (eD E q 4) else _) 1 = _
              rw [if_pos rfl, ← w4]; rfl
            · show (if q2 = q2 then wv (eD E q 0) (eD E q 1) (eD E q 2) (eD E q 3 - 1) (eD E q 4) else _) 2 = _
              rw [if_pos rfl, pk_un (by omega), ← w5]; rfl
            · show (if q2 = q2 then wv (eD E q 0) (eD E q 1) (eD E q 2) (eD E q 3 - 1) (eD E q 4) else _) 3 = _
              rw [if_pos rfl, pk_us, ← epm, ← ed3]; rfl
            · show (if q2 = q2 then wv (eD E q 0) (eD E q 1) (eD E q 2) (eD E q 3 - 1) (eD E q 4) else _) 4 = _
              rw [if_pos rfl, pk_un (by omega), ← w7]; rfl
          obtain ⟨G3, d1, d2, d3, d4⟩ := putC (n := n) (x := nI c0) (by omega) hm hp (GoV_Ex hE a4) hT2 hB' hW2
          have hR3 : (upR R2 1 (22 + p) (nI c0)) 1 = upd (R 1) (22 + p) (nI c0) := by rw [q_upS, er2]
          have hL' : NgM (upd (R 1) (22 + p) (nI c0)) L := NgM_cg (pk_un (by omega)) (fun j j1 j2 => pk_un (by omega)) hL
          have hTl' : tlM (upd (R 1) (22 + p) (nI c0)) be he oi := tlM_cg (pk_un (by omega)) (fun j j1 j2 => pk_un (by omega)) hTl
          have h0' : upd (R 1) (22 + p) (nI c0) 0 = nI m := by rw [pk_un (by omega)]; exact h0
          obtain ⟨y, G4, I4, R4, e1, e2, e3, e4, e5, e6⟩ := least0 (n := n) (g := 2 ^ m - 1) (st := 0) (v3 := -1) (E := qE E q q2) (F := F1) (G := G3) (P := upP P1 10 p (some q2)) (N := N1) (I := I2) (R := upR R2 1 (22 + p) (nI c0)) hn hR3 hm h0' hB' hL' hTl' g6 g7 n6 n7 d2 d3 byI_none (by omega) (by omega)
          have hyx : y ≠ 1000000 := by
            intro hy
            have hno := e4.mp hy
            apply hx
            apply b4.mpr
            rintro ⟨i, q', c, hw, hq'⟩
            obtain ⟨c', hw'⟩ := wk_ct (ct' := mnS (upd (R 1) (22 + p) (nI c0)) m L) i _ _ _ hw
            apply hno
            refine ⟨i, q', c', ?_, hq'⟩
            have ecn : cnS (upd (R 1) (22 + p) (nI c0)) m L be he = cnS (R 1) m L be he := by
              funext a' w'
              exact pc_cn hm (by omega)
            rw [ecn]
            exact hw'
          have hye : orN y = nI y := by unfold orN; rw [if_neg hyx]
          have er4 : R4 1 = upd (R 1) (22 + p) (nI c0) := by rw [e5.2 1 (by decide) (by decide) (by decide) (by decide) (by decide) (by decide), hR3]
          have hback : upd (upd (R 1) (22 + p) (nI c0)) (22 + p) (nI (c0 + 1)) = R 1 := by
            funext j
            by_cases e : j = 22 + p
            · rw [e, pk_us, vp]
            · rw [pk_un e, pk_un e]
          have hT4 : TbV G4 (upd (R 1) (22 + p) (nI c0)) m L be he := fun x y x1 x2 x3 => by
            rw [e6 (19 + y) (by omega) (by omega), e6 (22 + y) (by omega) (by omega)]
            exact d3 x y x1 x2 x3
          obtain ⟨G5, k1, k2, k3, k4⟩ := putC (n := n) (x := nI (c0 + 1)) (G := G4) (q := q) (by omega) hm hp d2 hT4 (by rw [hback]; exact hB) (by rw [hback]; exact isW_Ex hE h2)
          rw [hback] at k2 k3
          refine ⟨nI x - nI y, G5, upP (upP P1 10 p (some q2)) 10 p (some q), I4, upR R4 1 (22 + p) (nI (c0 + 1)), ?_, ?_, ?_⟩
          · unfold p_quick2
            rw [d1, Option.bind_some]
            dsimp only
            rw [q_Ceb hm g5, Option.bind_some, show p_LB_leastFor n (qE E q q2) (nI (2 ^ m - 1)) 0 F1 G3 (upP P1 10 p (some q2)) N1 = some (orN y, F1, G4, upP P1 10 p (some q2), N1) from e1, Option.bind_some]
            dsimp only
            rw [k1, hxe, hye]
            rfl
          · unfold p_Md_quicker
            rw [h3, Option.bind_some, if_neg (show ¬ (1 : Int32) = 0 by decide), show (22 : Int32) + nI p = nI (22 + p) from nI_add 22 p, if_pos i22]
            simp only [nI_clamp (show 22 + p < 2 ^ 31 by omega)]
            rw [vp, if_neg hn1, nowM q9 q8, Option.bind_some, q_Mall hm h0, Option.bind_some, b2, Option.bind_some]
            dsimp only
            rw [if_neg (show ¬ nI x = 1000000 from fun e => hx ((nI_eq (a := x) (b := 1000000) (by omega) (by omega)).mp e)), if_pos i22, if_pos i22, show R2 1 (22 + p) = nI (c0 + 1) by rw [er2, vp], epm, nowM (a := a) (w := w) (by rw [hR3, pk_un (by omega)]; exact q9) (by rw [hR3, pk_un (by omega)]; exact q8), Option.bind_some, q_Mall hm (by rw [hR3]; exact h0'), Option.bind_some, e2, Option.bind_some]
            dsimp only
            rw [if_pos i22, if_pos i22, show R4 1 (22 + p) = nI c0 by rw [er4, pk_us], nI_1]
          · obtain ⟨z1, im, tr, sl⟩ := hRL2
            have hR1 : (upR R4 1 (22 + p) (nI (c0 + 1))) 1 = R 1 := by rw [q_upS, er4, hback]
            have hq2R : ∀ j, j ≠ 1 → j ≠ 9 → j ≠ 10 → j ≠ 13 → j ≠ 14 → j ≠ 15 → j ≠ 16 → (upR R4 1 (22 + p) (nI (c0 + 1))) j = R2 j := fun j a b c d e f g => by rw [q_upN a, e5.2 j b c d e f g, q_upN a]
            have gg : ∀ j, j ≠ 17 → j ≠ 19 → j ≠ 20 → j ≠ 24 → j ≠ 25 → G5 j = G2 j := fun j a b c d e => by rw [k4 j a b c, e6 j d e, d4 j a b c]
            have pp : ∀ j, j ≠ 10 → upP (upP P1 10 p (some q2)) 10 p (some q) j = P1 j := fun j hj => by rw [q_upPk hj, q_upPk hj]
            refine ⟨m, k, r, b, t, w, a, L, be, he, oi, ?_, ?_, ?_, ?_⟩
            · rw [hR1, pp 8 (by decide), gg 6 (by decide) (by decide) (by decide) (by decide) (by decide), gg 11 (by decide) (by decide) (by decide) (by decide) (by decide), gg 13 (by decide) (by decide) (by decide) (by decide) (by decide), gg 15 (by decide) (by decide) (by decide) (by decide) (by decide), ← er2]
              exact SR_Ex hE z1
            · have im2 := Img_Ex hE im
              unfold Img at im2 ⊢
              rw [pp 9 (by decide), gg 7 (by decide) (by decide) (by decide) (by decide) (by decide), gg 12 (by decide) (by decide) (by decide) (by decide) (by decide), gg 14 (by decide) (by decide) (by decide) (by decide) (by decide), gg 16 (by decide) (by decide) (by decide) (by decide) (by decide), hq2R 2 (by decide) (by decide) (by decide) (by decide) (by decide) (by decide) (by decide), e5.1 3 (by decide) (by decide)]
              exact im2
            · unfold Trc at tr ⊢
              rw [gg 5 (by decide) (by decide) (by decide) (by decide) (by decide), hq2R 19 (by decide) (by decide) (by decide) (by decide) (by decide) (by decide) (by decide), e5.1 20 (by decide) (by decide)]
              exact tr
            · rw [hR1]
              rcases sl with e | ⟨e, -, -⟩
              · exact Or.inl e
              · exact Or.inr ⟨e, k2, k3⟩
        refine ⟨Sum.inr (q, orN x, F1, G2, P1, N1), ?_, fun w' hw' q2 hq2 => ?_, fun r' u E' hp' => ?_⟩
        · rw [eC, if_neg hxn]
        · obtain ⟨rr, G5, P5, I5, R5, s1, s2, s3⟩ := second q2 hq2
          cases hw'
          exact ⟨_, s1⟩
        · obtain ⟨q2, hq2, e1, e2⟩ := hp'
          obtain ⟨rr, G5, P5, I5, R5, s1, s2, s3⟩ := second q2 hq2
          rw [s1] at e1
          cases e1
          subst e2
          exact ⟨I5, R5, s2, s3⟩
  · refine fin (-1) F G P N I R ?_ ?_ h'
    · unfold p_LB_quicker
      rw [h1]; rfl
    · unfold p_Md_quicker
      rw [h2]; rfl
