/-! ===== steps: least, fewest, leave ===== -/
def OKi (E : PE) (f : Option (Int32 × CU)) (g : Option (Int32 × MU)) : Prop := ∃ (r : Int32) (F G : Nat → Nat → Int32) (P : Nat → Nat → Option Nat) (N : Nat → Nat) (I : Nat → Int32) (R : Nat → Nat → Int32), f = some (r, F, G, P, N) ∧ g = some (r, I, R) ∧ RL E F G P N I R
theorem RLp.rl {E : PE} {F G : Nat → Nat → Int32} {P : Nat → Nat → Option Nat} {N : Nat → Nat} {I : Nat → Int32} {R : Nat → Nat → Int32} {m k r b t w a : Nat} {L : List Cls} {be he oi : Nat} (h : RLp E F G P N I R m k r b t w a L be he oi) : RL E F G P N I R := ⟨m, k, r, b, t, w, a, L, be, he, oi, h⟩
theorem RLp_Lw {E : PE} {F G : Nat → Nat → Int32} {P : Nat → Nat → Option Nat} {N : Nat → Nat} {I I' : Nat → Int32} {R R' : Nat → Nat → Int32} {m k r b t w a : Nat} {L : List Cls} {be he oi : Nat} (h : RLp E F G P N I R m k r b t w a L be he oi) (hl : Lw I I' R R') : RLp E F G P N I' R' m k r b t w a L be he oi :=
  RLp_M h (hl.1 3 (by decide) (by decide)) (hl.1 20 (by decide) (by decide)) (hl.2 1 (by decide) (by decide) (by decide) (by decide) (by decide) (by decide)) (hl.2 2 (by decide) (by decide) (by decide) (by decide) (by decide) (by decide)) (hl.2 19 (by decide) (by decide) (by decide) (by decide) (by decide) (by decide))
theorem q_pl : ∀ a, a < 64 → ∀ w, w < 2 → (nI a <<< (1 &&& 31)) ||| nI w = nI (2 * a + w) := by decide +kernel
theorem placeC {n a w : Nat} {E : PE} {F G : Nat → Nat → Int32} {P : Nat → Nat → Option Nat} {N : Nat → Nat} (h6 : F 1 6 = nI a) (h7 : F 1 7 = nI w) (ha : a < 64) (hw : w ≤ 1) : p_St_place n E F G P N = some (nI (2 * a + w)) := by
  unfold p_St_place
  rw [h6, h7, q_pl a ha w (by omega)]
theorem nowM {n a w : Nat} {I : Nat → Int32} {R : Nat → Nat → Int32} (h9 : R 1 9 = nI a) (h8 : R 1 8 = nI w) : p_Md_now n I R = some (nI (a + 64 * w)) := by
  unfold p_Md_now
  rw [h9, h8, show (64 : Int32) * nI w = nI (64 * w) from pk_mul 64 w, nI_add]
theorem pk2_aw {a w : Nat} (ha : a < 64) (hw : w ≤ 1) : pk2 (a + 64 * w) = 2 * a + w := by unfold pk2; omega
theorem Tb_W {G : Nat → Nat → Int32} {s : Nat → Int32} {m : Nat} {L : List Cls} {be he : Nat} (h : TbV G s m L be he) : TbW G m (cnS s m L be he) (mnS s m L) := h
/-- least, by both -/
theorem leastBoth {n m k r b t w a g st : Nat} {v3 : Int32} {E : PE} {F G : Nat → Nat → Int32} {P : Nat → Nat → Option Nat} {N : Nat → Nat} {I : Nat → Int32} {R : Nat → Nat → Int32} {L : List Cls} {be he oi : Nat} (hn : 300000000 ≤ n) (h : RLp E F G P N I R m k r b t w a L be he oi) (hV : GoV E F P N (R 1) m L be he) (hT : TbV G (R 1) m L be he) (hst : byI m v3 st) (hst6 : st < 64) (hg : g < 64) :
    ∃ v G' I' R', p_LB_leastFor n E (nI g) (nI st) F G P N = some (orN v, F, G', P, N) ∧ p_Md_leastFrom n (nI (a + 64 * w)) (nI g) v3 I R = some (nI v, I', R') ∧ (v = 1000000 ∨ v ≤ 134400) ∧ RLp E F G' P N I' R' m k r b t w a L be he oi ∧ GoV E F P N (R' 1) m L be he ∧ TbV G' (R' 1) m L be he ∧ R' 1 = R 1 ∧ (∀ q, q ≠ 11 → q ≠ 12 → I' q = I q) ∧ ∀ k, k ≠ 24 → k ≠ 25 → G' k = G k := by
  obtain ⟨hm, h0, hB, hL, hTl⟩ := SR_go h.1
  have h64 := q_p2 m (by omega)
  obtain ⟨⟨n1, n2, n3, n4, n5, n6, n7⟩, -, -, -, -, -, ⟨q8, f7⟩, ⟨q9, f6⟩, -, -⟩ := h.1.1
  have ha6 : a < 64 := by omega
  have hpk := pk2_aw ha6 n6
  have hp0 : 2 * a + w < 2 * 2 ^ m := by omega
  obtain ⟨v, I1, R1, a1, a2, a3, a4⟩ := leastFromM (n := n) (st := st) (k0 := a + 64 * w) (g := g) (I := I) hn hL hTl rfl hm h0 hB hst (by omega) (by rw [hpk]; exact hp0) hg
  rw [hpk] at a4
  obtain ⟨G1, M, b1, b2, b3, b4⟩ := measToC (n := n) (cnt := false) (E := E) (F := F) (G0 := G) (P := P) (N := N) (by omega) hm hst6 hg hV.2.1 (Tb_W hT) (fun g w => mnS_le hB hL.1 hL.2.1)
  obtain ⟨c1, c2, c3⟩ := cmpL hp0 b4 (b3 _ hp0).2 a4
  have er : R1 1 = R 1 := a2.2 1 (by decide) (by decide) (by decide) (by decide) (by decide) (by decide)
  refine ⟨v, G1, I1, R1, ?_, a1, ?_, RLp_Lw (RLp_G h (fun k _ k24 k25 => b2 k k24 k25)) a2, by rw [er]; exact hV, ?_, er, a2.1, b2⟩
  · unfold p_LB_leastFor
    rw [show p_Se_measureTo n E (nI g) (nI st) 0 F G P N = some (F, G1, P, N) from b1]
    rw [Option.bind_some]
    dsimp only
    rw [placeC f6 f7 ha6 n6]
    show (p_Se_measureAt n E F G1 P N (nI (2 * a + w))).bind _ = _
    rw [measAtC (show 2 * 2 ^ m ≤ 128 by omega) hp0 b3, c1]
    rfl
  · by_cases e : v = 1000000
    · exact Or.inl e
    · have e2 := c3 e
      have e3 : M (2 * a + w) < 1073741824 := by
        have := (b3 _ hp0).2
        rcases Nat.lt_or_ge (M (2 * a + w)) 1073741824 with h9 | h9
        · exact h9
        · exact absurd (c2.mpr (by omega)) e
      have := (b4.1 _ hp0 e3).1
      exact Or.inr (by omega)
  · rw [er]
    intro x y x1 x2 x3
    rw [b2 (19 + y) (by omega) (by omega), b2 (22 + y) (by omega) (by omega)]
    exact hT x y x1 x2 x3
theorem byI_none {m : Nat} : byI m (-1) 0 := Or.inl ⟨rfl, rfl⟩
theorem st_least {n : Nat} {v : Int32} {E : PE} {F G : Nat → Nat → Int32} {P : Nat → Nat → Option Nat} {N : Nat → Nat} {I : Nat → Int32} {R : Nat → Nat → Int32} (hn : 300000000 ≤ n) (h : RL E F G P N I R) : OKi E (p_LB_least n E v F G P N) (p_Md_least n v I R) := by
  obtain ⟨m, k, r, b, t, w, a, L, be, he, oi, h⟩ := h
  obtain ⟨hm, h0, hB, hL, hTl⟩ := SR_go h.1
  have f5 : F 1 5 = nI m := h.1.1.2.1.2
  have h64 := q_p2 m (by omega)
  unfold p_LB_least p_Md_least
  by_cases hS : isS m v
  · rw [isS_c1 hm f5 hS, isS_1 hm h0 hS]
    obtain ⟨g, hg, rfl⟩ := hS
    obtain ⟨F1, G1, P1, N1, a1, a2, a3, a4, a5, a6, a7⟩ := refreshC (n := n) h (by omega)
    obtain ⟨⟨n1, n2, n3, n4, n5, n6, n7⟩, -, -, -, -, -, ⟨q8, f7⟩, ⟨q9, f6⟩, -, -⟩ := h.1.1
    obtain ⟨x, G2, I2, R2, b1, b2, b3, b4, b5⟩ := leastBoth (g := g) hn a2 a4 a5 byI_none (by omega) (by omega)
    refine ⟨orN x, F1, G2, P1, N1, I2, R2, ?_, ?_, b4.rl⟩
    · show (p_LB_refresh n E F G P N).bind _ = _
      rw [a1]
      show (p_LB_leastFor n E (nI g) 0 F1 G1 P1 N1).bind _ = _
      rw [show p_LB_leastFor n E (nI g) 0 F1 G1 P1 N1 = some (orN x, F1, G2, P1, N1) from b1]
      rfl
    · show ((p_Md_now n I R).bind fun x8 => (p_Md_leastFrom n x8 (nI g) (-1) I R).bind fun (x12, I10, R11) => (p_Md_orNone n x12).bind fun x14 => some (x14, I10, R11)).bind _ = _
      rw [nowM q9 q8]
      show ((p_Md_leastFrom n (nI (a + 64 * w)) (nI g) (-1) I R).bind fun (x12, I10, R11) => (p_Md_orNone n x12).bind fun x14 => some (x14, I10, R11)).bind _ = _
      rw [b2]
      show ((p_Md_orNone n (nI x)).bind fun x14 => some (x14, I2, R2)).bind _ = _
      rw [orN_M (by rcases b3 with h | h <;> omega)]
      rfl
  · rw [isS_c0 hm f5 hS, isS_0 hm h0 hS]
    exact ⟨-2, F, G, P, N, I, R, rfl, rfl, h.rl⟩
theorem st_fewest {n : Nat} {v : Int32} {E : PE} {F G : Nat → Nat → Int32} {P : Nat → Nat → Option Nat} {N : Nat → Nat} {I : Nat → Int32} {R : Nat → Nat → Int32} (hn : 300000000 ≤ n) (h : RL E F G P N I R) : OKi E (p_LB_fewest n E v F G P N) (p_Md_fewest n v I R) := by
  obtain ⟨m, k, r, b, t, w, a, L, be, he, oi, h⟩ := h
  obtain ⟨hm, h0, hB, hL, hTl⟩ := SR_go h.1
  have f5 : F 1 5 = nI m := h.1.1.2.1.2
  have h64 := q_p2 m (by omega)
  unfold p_LB_fewest p_Md_fewest
  by_cases hS : isS m v
  · rw [isS_c1 hm f5 hS, isS_1 hm h0 hS]
    obtain ⟨g, hg, rfl⟩ := hS
    obtain ⟨F1, G1, P1, N1, a1, a2, a3, a4, a5, a6, a7⟩ := refreshC (n := n) h (by omega)
    obtain ⟨⟨n1, n2, n3, n4, n5, n6, n7⟩, -, -, -, -, -, ⟨q8, f7⟩, ⟨q9, f6⟩, -, -⟩ := h.1.1
    have ha6 : a < 64 := by omega
    have hpk := pk2_aw ha6 n6
    have hp0 : 2 * a + w < 2 * 2 ^ m := by omega
    obtain ⟨I1, R1, c1, c2, c3⟩ := costsM (n := n) (I := I) (by omega) hL hTl rfl hm h0 hB (byI_none (m := m))
    have es : R1 1 = R 1 := c2.2 1 (by decide) (by decide) (by decide) (by decide) (by decide) (by decide)
    obtain ⟨D, S, R2, d1, d2, d3, d4, d5, d6⟩ := fromM (I := I1) (k0 := a + 64 * w) hn hm (by omega) (by rw [hpk]; exact hp0) (by rw [es]; exact h0) c3 (fun g w => mnS_le hB hL.1 hL.2.1)
    obtain ⟨x, e1, e2, e3, e4⟩ := leastOf15 (n := n) (g := g) (I := I1) (R := R2) (D := S) (by omega) (by omega) (fun k hk => ⟨(d3 k hk).2.1, (d3 k hk).2.2.2⟩)
    have hLs := LeS_of hm (by rw [hpk]; exact hp0) (fun k hk => (d4 k hk).2) d6 e2 e3 e4
    rw [hpk] at hLs
    obtain ⟨G2, M, b1, b2, b3, b4⟩ := measToC (n := n) (st := 0) (g := g) (cnt := true) (E := E) (F := F1) (G0 := G1) (P := P1) (N := N1) (by omega) hm (by omega) (by omega) a4.2.1 (Tb_W a5) (fun g w => mnS_le hB hL.1 hL.2.1)
    have hcmp := (cmpL (ct := one2) hp0 b4 (b3 _ hp0).2 hLs).1
    have hlw : Lw I I1 R R2 := c2.trans ⟨fun _ _ _ => rfl, fun q _ _ _ q14 q15 _ => d2 q q14 q15⟩
    refine ⟨orN x, F1, G2, P1, N1, I1, R2, ?_, ?_, (RLp_Lw (RLp_G a2 (fun k _ k24 k25 => b2 k k24 k25)) hlw).rl⟩
    · show (p_LB_refresh n E F G P N).bind _ = _
      rw [a1]
      show (p_Se_measureTo n E (nI g) 0 1 F1 G1 P1 N1).bind _ = _
      rw [show p_Se_measureTo n E (nI g) 0 1 F1 G1 P1 N1 = some (F1, G2, P1, N1) from b1]
      rw [Option.bind_some]
      dsimp only
      rw [placeC (by rw [a3]; exact f6) (by rw [a3]; exact f7) ha6 n6]
      show (p_Se_measureAt n E F1 G2 P1 N1 (nI (2 * a + w))).bind _ = _
      rw [measAtC (show 2 * 2 ^ m ≤ 128 by omega) hp0 b3, hcmp]
      rfl
    · show (p_Md_looksForCosts n (-1) I R).bind _ = _
      rw [c1]
      rw [Option.bind_some]
      dsimp only
      rw [nowM (by rw [es]; exact q9) (by rw [es]; exact q8)]
      show (p_Md_looksFrom n (nI (a + 64 * w)) I1 R1).bind _ = _
      rw [d1]
      show (p_Md_leastOf_ad15 n (nI g) I1 R2).bind _ = _
      rw [e1]
      show (p_Md_orNone n (nI x)).bind _ = _
      rw [orN_M e2]
      rfl
  · rw [isS_c0 hm f5 hS, isS_0 hm h0 hS]
    exact ⟨-2, F, G, P, N, I, R, rfl, rfl, h.rl⟩
theorem orN_ne {v : Nat} (h : v ≤ 1000000) : orN v = (-5) ↔ v = 1000000 := by
  unfold orN
  constructor
  · intro e
    apply Classical.byContradiction
    intro hc
    rw [if_neg hc] at e
    exact nI_pos (n := v) (by omega) (by rw [e]; decide)
  · intro e; rw [if_pos e]
theorem st_leave {n : Nat} {E : PE} {F G : Nat → Nat → Int32} {P : Nat → Nat → Option Nat} {N : Nat → Nat} {I : Nat → Int32} {R : Nat → Nat → Int32} (hn : 300000000 ≤ n) (h : RL E F G P N I R) : OKi E (p_LB_leave n E F G P N) (p_Md_leave n I R) := by
  obtain ⟨m, k, r, b, t, w, a, L, be, he, oi, h⟩ := h
  obtain ⟨hm, h0, hB, hL, hTl⟩ := SR_go h.1
  have f5 : F 1 5 = nI m := h.1.1.2.1.2
  have h64 := q_p2 m (by omega)
  obtain ⟨F1, G1, P1, N1, a1, a2, a3, a4, a5, a6, a7⟩ := refreshC (n := n) h (by omega)
  obtain ⟨⟨n1, n2, n3, n4, n5, n6, n7⟩, -, -, -, -, -, ⟨q8, f7⟩, ⟨q9, f6⟩, -, -⟩ := h.1.1
  have f51 : F1 1 5 = nI m := by rw [a3]; exact f5
  have main : ∀ (c i : Nat) (G2 : Nat → Nat → Int32) (I2 : Nat → Int32) (R2 : Nat → Nat → Int32) (kc km : Nat) (best : Int32) (lc : Int32) (lm : Nat), m - i = c → i ≤ m → c < kc → c < km → RLp E F1 G2 P1 N1 I2 R2 m k r b t w a L be he oi → GoV E F1 P1 N1 (R2 1) m L be he → TbV G2 (R2 1) m L be he → R2 1 = R 1 → ((best = (-5) ∧ lm = 1000000) ∨ (best ≠ (-5) ∧ lm ≤ 134400 ∧ lc = nI lm)) →
      ∃ (z : Int32) (G3 : Nat → Nat → Int32) (I3 : Nat → Int32) (R3 : Nat → Nat → Int32), l_LB_leave_11 n E kc best lc (nI i) F1 G2 P1 N1 = some (z, F1, G3, P1, N1) ∧ l_Md_leave_8 n km best (nI lm) (nI i) I2 R2 = some (z, I3, R3) ∧ RLp E F1 G3 P1 N1 I3 R3 m k r b t w a L be he oi := by
    intro c
    induction c with
    | zero =>
      intro i G2 I2 R2 kc km best lc lm hc hi hkc hkm h1 h2 h3 h4 h5
      obtain ⟨kc, rfl⟩ : ∃ x, kc = x + 1 := ⟨kc - 1, by omega⟩
      obtain ⟨km, rfl⟩ : ∃ x, km = x + 1 := ⟨km - 1, by omega⟩
      have e : i = m := by omega
      subst e
      refine ⟨best, G2, I2, R2, ?_, ?_, h1⟩
      · rw [l_LB_leave_11, f51, if_pos (Int32.le_refl _)]
      · rw [l_Md_leave_8, h4, h0, if_pos (Int32.le_refl _)]
    | succ c ih =>
      intro i G2 I2 R2 kc km best lc lm hc hi hkc hkm h1 h2 h3 h4 h5
      obtain ⟨kc, rfl⟩ : ∃ x, kc = x + 1 := ⟨kc - 1, by omega⟩
      obtain ⟨km, rfl⟩ : ∃ x, km = x + 1 := ⟨km - 1, by omega⟩
      have him : i < m := by omega
      have hpi := q_pw i (by omega)
      have hdd := q_dif64 (2 ^ m - 1) (by omega) (2 ^ i) hpi
      obtain ⟨x, G3, I3, R3, b1, b2, b3, b4, b5, b6, b7, b8, b9⟩ := leastBoth (n := n) (g := dif (2 ^ m - 1) (2 ^ i)) (st := 2 ^ i) (v3 := nI i) hn h1 h2 h3 (Or.inr ⟨i, him, rfl, rfl⟩) hpi hdd
      have hR0 : R2 1 0 = nI m := by rw [h4]; exact h0
      have ec : (if orN x = (-5) then some (best, lc) else (if best = (-5) then some (nI i, orN x) else (if lc ≤ orN x then some (best, lc) else some (nI i, orN x))) : Option (Int32 × Int32)) = some (if lm ≤ x then best else nI i, if lm ≤ x then lc else orN x) ∧ (((if lm ≤ x then best else nI i) = (-5) ∧ (if lm ≤ x then lm else x) = 1000000) ∨ ((if lm ≤ x then best else nI i) ≠ (-5) ∧ (if lm ≤ x then lm else x) ≤ 134400 ∧ (if lm ≤ x then lc else orN x) = nI (if lm ≤ x then lm else x))) := by
        have hni : ¬ nI i = (-5) := fun e => nI_pos (n := i) (by omega) (by rw [e]; decide)
        rcases b3 with e | e
        · have hx : orN x = (-5) := (orN_ne (by omega)).mpr e
          have hlx : lm ≤ x := by rcases h5 with h | h <;> omega
          rw [if_pos hx, if_pos hlx, if_pos hlx, if_pos hlx]
          exact ⟨rfl, h5⟩
        · have hx : orN x = nI x := by unfold orN; rw [if_neg (by omega)]
          have hx5 : ¬ orN x = (-5) := fun q => by have := (orN_ne (by omega)).mp q; omega
          rw [if_neg hx5]
          rcases h5 with ⟨g1, g2⟩ | ⟨g1, g2, g3⟩
          · rw [if_pos g1, if_neg (show ¬ lm ≤ x by omega), if_neg (show ¬ lm ≤ x by omega), if_neg (show ¬ lm ≤ x by omega)]
            exact ⟨rfl, Or.inr ⟨hni, e, hx⟩⟩
          · rw [if_neg g1, g3, hx]
            by_cases hlx : lm ≤ x
            · rw [if_pos (nI_le hlx (by omega)), if_pos hlx, if_pos hlx, if_pos hlx]
              exact ⟨rfl, Or.inr ⟨g1, g2, rfl⟩⟩
            · rw [if_neg (nI_ge (by omega) (by omega)), if_neg hlx, if_neg hlx, if_neg hlx]
              exact ⟨rfl, Or.inr ⟨hni, e, rfl⟩⟩
      obtain ⟨z, G4, I4, R4, d1, d2, d3⟩ := ih (i + 1) G3 I3 R3 kc km (if lm ≤ x then best else nI i) (if lm ≤ x then lc else orN x) (if lm ≤ x then lm else x) (by omega) (by omega) (by omega) (by omega) b4 b5 b6 (by rw [b7]; exact h4) ec.2
      refine ⟨z, G4, I4, R4, ?_, ?_, d3⟩
      · rw [l_LB_leave_11, f51, if_neg (nI_ge him (by omega)), q_Ceb hm f51]
        show (p_LB_leastFor n E (nI (2 ^ m - 1) &&& ((1 <<< (nI i &&& 31)) ^^^ (-1))) (1 <<< (nI i &&& 31)) F1 G2 P1 N1).bind _ = _
        rw [q_one i (by omega), q_dif _ (by omega) _ hpi, b1]
        show ((if orN x = (-5) then some (best, lc) else (if best = (-5) then some (nI i, orN x) else (if lc ≤ orN x then some (best, lc) else some (nI i, orN x))) : Option (Int32 × Int32))).bind _ = _
        rw [ec.1, nI_1]
        exact d1
      · rw [l_Md_leave_8, hR0, if_neg (nI_ge him (by omega)), nowM (by rw [h4]; exact q9) (by rw [h4]; exact q8), Option.bind_some, q_Mall hm hR0]
        show (p_Md_leastFrom n (nI (a + 64 * w)) (nI (2 ^ m - 1) &&& ((1 <<< (nI i &&& 31)) ^^^ (-1))) (nI i) I2 R2).bind _ = _
        rw [q_one i (by omega), q_dif _ (by omega) _ hpi, b2]
        show ((if nI lm ≤ nI x then some best else some (nI i) : Option Int32)).bind (fun x10 => ((if nI lm ≤ nI x then some (nI lm) else some (nI x) : Option Int32)).bind fun x12 => l_Md_leave_8 n km x10 x12 (nI i + 1) I3 R3) = _
        rw [nI_1]
        by_cases hlx : lm ≤ x
        · rw [if_pos hlx, if_pos hlx] at d2
          rw [if_pos (nI_le hlx (by omega)), if_pos (nI_le hlx (by omega))]
          exact d2
        · rw [if_neg hlx, if_neg hlx] at d2
          rw [if_neg (nI_ge (by omega) (by rcases h5 with h | h <;> omega)), if_neg (nI_ge (by omega) (by rcases h5 with h | h <;> omega))]
          exact d2
  obtain ⟨z, G3, I3, R3, d1, d2, d3⟩ := main m 0 G1 I R n n (-5) 0 1000000 (by omega) (by omega) (by omega) (by omega) a2 a4 a5 rfl (Or.inl ⟨rfl, rfl⟩)
  refine ⟨z, F1, G3, P1, N1, I3, R3, ?_, ?_, d3.rl⟩
  · unfold p_LB_leave
    rw [a1]
    show (l_LB_leave_11 n E n (-5) 0 0 F1 G1 P1 N1).bind _ = _
    rw [show l_LB_leave_11 n E n (-5) 0 0 F1 G1 P1 N1 = some (z, F1, G3, P1, N1) from d1]
    rfl
  · unfold p_Md_leave
    rw [show l_Md_leave_8 n n (-5) 1000000 0 I R = some (z, I3, R3) from d2]
    rfl
