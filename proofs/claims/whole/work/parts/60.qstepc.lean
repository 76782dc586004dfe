/-! ===== what of the model's row counts; go, looked ===== -/
def sAg (s s' : Nat → Int32) : Prop := ∀ j, 10 ≤ j → j < 34 → s' j = s j
theorem fcs_cg {s s' : Nat → Int32} (h : sAg s s') {p a w : Nat} (hp : p < 6) : fcs s' p a w = fcs s p a w := by
  funext k
  unfold fcs
  rw [h (10 + p) (by omega) (by omega), h (28 + p) (by omega) (by omega)]
theorem hv_cg {s s' : Nat → Int32} (h : sAg s s') {p a : Nat} (hp : p < 6) : ∀ i, i ≤ 6 → hv s' p a i = hv s p a i
  | 0, _ => by simp [hv]
  | i + 1, hi => by
    rw [hv_s, hv_s, hv_cg h hp i (by omega)]
    unfold hvq
    rw [h (28 + p) (by omega) (by omega), h (28 + i) (by omega) (by omega)]
theorem ld_cg {s s' : Nat → Int32} (h : sAg s s') {p a : Nat} : ∀ i, i ≤ 6 → ld s' p a i = ld s p a i
  | 0, _ => by simp [ld]
  | i + 1, hi => by
    rw [ld_s, ld_s, ld_cg h i (by omega)]
    unfold ldq
    rw [h (10 + i) (by omega) (by omega)]
theorem tkS_cg {s s' : Nat → Int32} (h : sAg s s') {m p a w : Nat} {L : List Cls} (hm : m ≤ 6) (hp : p < m) : tkS s' m L p a w = tkS s m L p a w := by
  unfold tkS
  rw [fcs_cg h (by omega), hv_cg h (by omega) m hm, ld_cg h m hm, h (10 + p) (by omega) (by omega), h (16 + p) (by omega) (by omega), h (22 + p) (by omega) (by omega)]
theorem mxB_cg {f g : Nat → Nat} {a : Nat} : ∀ m, (∀ i, i < m → bt a i = true → f i = g i) → mxB f a m = mxB g a m
  | 0, _ => rfl
  | m + 1, h => by
    simp only [mxB]
    rw [mxB_cg m (fun i hi => h i (by omega))]
    by_cases hb : bt a m = true
    · rw [if_pos hb, if_pos hb, h m (by omega) hb]
    · rw [if_neg hb, if_neg hb]
theorem mnS_cg {s s' : Nat → Int32} (h : sAg s s') {m a w : Nat} {L : List Cls} (hm : m ≤ 6) : mnS s' m L a w = mnS s m L a w := mxB_cg m (fun i hi _ => tkS_cg h hm hi)
theorem wtS_cg {s s' : Nat → Int32} (h : sAg s s') {a : Nat} : ∀ i, i ≤ 6 → wtS s' a i = wtS s a i
  | 0, _ => rfl
  | i + 1, hi => by
    simp only [wtS]
    rw [wtS_cg h i (by omega), h (28 + i) (by omega) (by omega)]
theorem brS_cg {s s' : Nat → Int32} (h : sAg s s') {L : List Cls} {a w : Nat} : ∀ i, i ≤ 6 → brS s' L a w i = brS s L a w i
  | 0, _ => by simp [brS]
  | i + 1, hi => by
    rw [brS_s, brS_s, brS_cg h i (by omega), fcs_cg h (by omega)]
theorem cnS_cg {s s' : Nat → Int32} (h : sAg s s') {m be he a w : Nat} {L : List Cls} (hm : m ≤ 6) : cnS s' m L be he a w = cnS s m L be he a w := by
  unfold cnS
  rw [wtS_cg h m hm, brS_cg h m hm]
theorem isW_cg {E : PE} {s s' : Nat → Int32} (h : sAg s s') {i q : Nat} (hi : i < 6) (hw : isW E s i q) : isW E s' i q := by
  unfold isW at hw ⊢
  rw [h (10 + i) (by omega) (by omega), h (16 + i) (by omega) (by omega), h (22 + i) (by omega) (by omega), h (28 + i) (by omega) (by omega)]
  exact hw
theorem VB_cg {s s' : Nat → Int32} (h : sAg s s') {m : Nat} (hm : m ≤ 6) (hv : VB s m) : VB s' m := by
  intro i hi
  rw [h (10 + i) (by omega) (by omega), h (16 + i) (by omega) (by omega), h (22 + i) (by omega) (by omega), h (28 + i) (by omega) (by omega)]
  exact hv i hi
theorem Ppl_cg {E : PE} {pp : Nat → Option Nat} {s s' : Nat → Int32} (h : sAg s s') {m : Nat} (hm : m ≤ 6) (hp : Ppl E pp s m) : Ppl E pp s' m :=
  ⟨VB_cg h hm hp.1, fun i hi => by obtain ⟨q, h1, h2⟩ := hp.2.1 i hi; exact ⟨q, h1, isW_cg h (by omega) h2⟩, hp.2.2⟩
theorem GoV_cg {E : PE} {F F' : Nat → Nat → Int32} {P P' : Nat → Nat → Option Nat} {N N' : Nat → Nat} {s s' : Nat → Int32} {m : Nat} {L : List Cls} {be he : Nat} (h : sAg s s') (hm : m ≤ 6) (f3 : F' 3 = F 3) (p10 : P' 10 = P 10) (n3 : N' 3 = N 3) (hV : GoV E F P N s m L be he) : GoV E F' P' N' s' m L be he := by
  unfold GoV at hV ⊢
  rw [f3, p10, n3]
  obtain ⟨v1, v2, ⟨lb, v3, v4, v5⟩, v6, v7⟩ := hV
  refine ⟨v1, v2, ⟨lb, v3, v4, fun q hq => by rw [v5 q hq, h (10 + q) (by omega) (by omega)]⟩, fun i hi => ?_, v7⟩
  obtain ⟨q, h1, h2⟩ := v6 i hi
  exact ⟨q, h1, isW_cg h (by omega) h2⟩
theorem TbV_cg {G G' : Nat → Nat → Int32} {s s' : Nat → Int32} {m : Nat} {L : List Cls} {be he : Nat} (h : sAg s s') (hm : m ≤ 6) (hG : ∀ k, k = 19 ∨ k = 20 ∨ k = 22 ∨ k = 23 → G' k = G k) (hT : TbV G s m L be he) : TbV G' s' m L be he := by
  intro a w a1 a2 a3
  rw [mnS_cg h hm, cnS_cg h hm, hG (19 + w) (by omega), hG (22 + w) (by omega)]
  exact hT a w a1 a2 a3
theorem Stl_cg {E : PE} {F F' G G' : Nat → Nat → Int32} {P P' : Nat → Nat → Option Nat} {N N' : Nat → Nat} {s s' : Nat → Int32} {m : Nat} {L : List Cls} {be he : Nat} (h : sAg s s') (hm : m ≤ 6) (f06 : F' 0 6 = F 0 6) (f3 : F' 3 = F 3) (p10 : P' 10 = P 10) (n3 : N' 3 = N 3) (hG : ∀ k, k = 19 ∨ k = 20 ∨ k = 22 ∨ k = 23 → G' k = G k) (hS : Stl E F G P N s m L be he) : Stl E F' G' P' N' s' m L be he := by
  unfold Stl at hS ⊢
  rw [f06]
  rcases hS with h1 | ⟨h1, h2, h3⟩
  · exact Or.inl h1
  · exact Or.inr ⟨h1, GoV_cg h hm f3 p10 n3 h2, TbV_cg h hm hG h3⟩
theorem Nit_cg {E : PE} {nn : Nat} {s s' : Nat → Int32} {k k' : Nat} {L : List Cls} {be he oi : Nat} (h5 : s' 5 = s 5) (h : ∀ j, 170 ≤ j → j < 890 → s' j = s j) (hk : k ≤ k') (hN : Nit E nn s k L be he oi) : Nit E nn s' k' L be he oi := by
  obtain ⟨a1, a2, a3, a4, a5, a6⟩ := hN
  refine ⟨a1, a2, ⟨a3.1, a3.2.1, ?_⟩, ⟨a4.1, a4.2.1, a4.2.2.1, ?_⟩, a5, ?_⟩
  · rw [h5]
    rcases a3.2.2 with b | ⟨act, b1, b2, b3, b4, b5⟩
    · exact Or.inl b
    · exact Or.inr ⟨act, b1, b2, by rw [h _ (by omega) (by omega)]; exact b3, b4, fun j hj => by rw [h _ (by omega) (by omega)]; exact b5 j hj⟩
  · rw [h5]
    rcases a4.2.2.2 with b | ⟨act, b1, b2, b3, b4, b5⟩
    · exact Or.inl b
    · exact Or.inr ⟨act, b1, b2, by rw [h _ (by omega) (by omega)]; exact b3, by rw [h _ (by omega) (by omega)]; exact b4, by rw [h _ (by omega) (by omega)]; exact b5⟩
  · rw [h5]
    rcases a6 with b | ⟨act, b1, b2⟩
    · exact Or.inl b
    · exact Or.inr ⟨act, by omega, b2⟩
theorem withL {n m a w : Nat} {E : PE} {F G : Nat → Nat → Int32} {P : Nat → Nat → Option Nat} {N : Nat → Nat} (hm : m ≤ 6) (f5 : F 1 5 = nI m) (f6 : F 1 6 = nI a) (f7 : F 1 7 = nI w) (ha : a < 2 ^ m) (hw : w ≤ 1) : p_St_withLantern n E F G P N = some (nI (bw m (2 * a + w))) := by
  have h64 := q_p2 m (by omega)
  unfold p_St_withLantern bw
  rw [q_Ceb hm f5, f6, f7, show (2 * a + w) / 2 = a by omega, show (2 * a + w) % 2 = w by omega]
  rcases (by omega : w = 0 ∨ w = 1) with rfl | rfl
  · rw [if_neg (show ¬ nI 0 = 1 by decide), if_neg (show ¬ (0 : Nat) = 1 by decide), Option.bind_some, q_dif _ (by omega) _ (by omega)]
    rfl
  · rw [if_pos (show nI 1 = 1 from rfl), if_pos (show (1 : Nat) = 1 from rfl)]
    rfl
/-- g is with the lantern, as the class asks -/
theorem subC {m a w g : Nat} (hm : m ≤ 6) (ha : a < 2 ^ m) (hw : w ≤ 1) (hg : g < 2 ^ m) : (nI g &&& (nI (bw m (2 * a + w)) ^^^ (-1)) = 0) ↔ hr g a w = true := by
  have h64 := q_p2 m (by omega)
  have hb := bw_lt (show 2 * a + w < 2 * 2 ^ m by omega) hm
  have hdl := dif_le (x := g) (y := bw m (2 * a + w))
  rw [q_dif _ (by omega) _ (by omega)]
  have e1 : nI (dif g (bw m (2 * a + w))) = 0 ↔ dif g (bw m (2 * a + w)) = 0 := nI_eq (b := 0) (by omega) (by omega)
  rw [e1, dif0 (by omega), bank_ok0 (by omega) hm, show (2 * a + w) / 2 = a by omega, show (2 * a + w) % 2 = w by omega]
  exact ⟨fun q => q.2, fun q => ⟨hg, q⟩⟩
theorem q_1w {w : Nat} (hw : w ≤ 1) : (1 : Int32) - nI w = nI (1 - w) := pk_sub (a := 1) hw
theorem st_go {n : Nat} {v1 : Int32} {E : PE} {F G : Nat → Nat → Int32} {P : Nat → Nat → Option Nat} {N : Nat → Nat} {I : Nat → Int32} {R : Nat → Nat → Int32} (hn : 300000000 ≤ n) (h : RL E F G P N I R) : OKi E (p_LB_go n E v1 F G P N) (p_Md_go n v1 I R) := by
  have h' := h
  obtain ⟨m, k, r, b, t, w, a, L, be, he, oi, h⟩ := h
  obtain ⟨hm, h0, hB, hL, hTl⟩ := SR_go h.1
  have h64 := q_p2 m (by omega)
  have f5 : F 1 5 = nI m := h.1.1.2.1.2
  unfold p_LB_go p_Md_go
  by_cases hz : v1 = 0
  · rw [if_pos hz, isS_1 hm h0 ⟨0, by omega, hz⟩, Option.bind_some, if_neg (show ¬ (1 : Int32) = 0 by decide), if_pos hz]
    exact ⟨-2, F, G, P, N, I, R, rfl, rfl, h'⟩
  · rw [if_neg hz]
    by_cases hS : isS m v1
    · rw [isS_c1 hm f5 hS, isS_1 hm h0 hS]
      obtain ⟨g, hg, rfl⟩ := hS
      have hg1 : 1 ≤ g := by
        apply Classical.byContradiction
        intro hc
        exact hz (by rw [show g = 0 by omega]; rfl)
      obtain ⟨F1, G1, P1, N1, a1, a2, a3, a4, a5, a6, a7⟩ := refreshC (n := n) h (by omega)
      obtain ⟨⟨n1, n2, n3, n4, n5, n6, n7⟩, -, -, -, -, -, ⟨q8, f7⟩, ⟨q9, f6⟩, -, -⟩ := h.1.1
      have ha6 : a < 64 := by omega
      rw [Option.bind_some, Option.bind_some, if_neg (show ¬ (1 : Int32) = 0 by decide), if_neg (show ¬ (1 : Int32) = 0 by decide), if_neg hz, a1, Option.bind_some]
      dsimp only
      rw [withL hm (by rw [a3]; exact f5) (by rw [a3]; exact f6) (by rw [a3]; exact f7) n7 n6, Option.bind_some, q9, q8, hereM (by omega) ha6 n6, Option.bind_some]
      have hsub := subC hm n7 n6 hg
      cases hh : hr g a w
      · rw [if_neg (show ¬ (nI g &&& (nI (bw m (2 * a + w)) ^^^ (-1)) = 0) from fun q => by rw [hsub.mp q] at hh; exact absurd hh (by decide)), if_pos (show b2i false = 0 from rfl)]
        exact ⟨-3, F1, G1, P1, N1, I, R, rfl, rfl, a2.rl⟩
      · obtain ⟨I1, R1, c1, c2⟩ := canM (n := n) (w := w) (I := I) (by omega) hL hTl rfl hm h0 hB hg
        have es1 : R1 1 = R 1 := c2.2 1 (by decide) (by decide)
        rw [if_pos (hsub.mpr hh), if_neg (show ¬ b2i true = 0 by decide), show F1 1 7 = nI w by rw [a3]; exact f7, canBeC (Tb_W a5) hm hg1 hg n6, c1, Option.bind_some, Option.bind_some]
        dsimp only
        cases hc : cnS (R 1) m L be he g w
        · rw [if_pos (show b2i false = 0 from rfl), if_pos (show b2i false = 0 from rfl)]
          exact ⟨-3, F1, G1, P1, N1, I1, R1, rfl, rfl, (RLp_Lw a2 c2.w).rl⟩
        · obtain ⟨I2, R2, d1, d2⟩ := minutesM (n := n) (w := w) (I := I1) (by omega) hL es1 hm h0 hB hg n6
          have es2 : R2 1 = R 1 := by rw [d2.2 1 (by decide) (by decide), es1]
          have eN1 : eN E (N1 1) = true := a2.1.2.2.2.1
          have eO : eI E (N1 1) 2 = nI oi := a2.1.2.2.2.2.2.2.2.1.2.2
          rw [if_neg (show ¬ b2i true = 0 by decide), if_neg (show ¬ b2i true = 0 by decide), minOfC (Tb_W a5) hm hg1 hg n6, d1, Option.bind_some, Option.bind_some]
          dsimp only
          rw [if_pos eN1, eO, (told_M (I := I2) hTl es2).2.2, Option.bind_some, Option.bind_some]
          have a2' : RLp E F1 G1 P1 N1 I2 R2 m k r b t w a L be he oi := RLp_Lw a2 (c2.trans d2).w
          have e8 : F1 1 8 = R2 1 6 := a2'.1.1.2.2.2.2.2.2.2.2.1
          have done : ∃ (r : Int32) (F' G' : Nat → Nat → Int32) (P' : Nat → Nat → Option Nat) (N' : Nat → Nat) (I' : Nat → Int32) (R' : Nat → Nat → Int32), some (nI (mnS (R 1) m L g w), (upR (upR (upR (upR F1 1 8 ((F1 1 8) + nI (mnS (R 1) m L g w))) 1 9 (((upR F1 1 8 ((F1 1 8) + nI (mnS (R 1) m L g w))) 1 9) + 1)) 1 6 ((((upR (upR F1 1 8 ((F1 1 8) + nI (mnS (R 1) m L g w))) 1 9 (((upR F1 1 8 ((F1 1 8) + nI (mnS (R 1) m L g w))) 1 9) + 1)) 1 6) ^^^ nI g))) 1 7 ((1 - ((upR (upR (upR F1 1 8 ((F1 1 8) + nI (mnS (R 1) m L g w))) 1 9 (((upR F1 1 8 ((F1 1 8) + nI (mnS (R 1) m L g w))) 1 9) + 1)) 1 6 ((((upR (upR F1 1 8 ((F1 1 8) + nI (mnS (R 1) m L g w))) 1 9 (((upR F1 1 8 ((F1 1 8) + nI (mnS (R 1) m L g w))) 1 9) + 1)) 1 6) ^^^ nI g))) 1 7)))), G1, P1, N1) = some (r, F', G', P', N') ∧ some (nI (mnS (R 1) m L g w), I2, (upR (upR (upR (upR R2 1 6 ((R2 1 6) + nI (mnS (R 1) m L g w))) 1 7 (((upR R2 1 6 ((R2 1 6) + nI (mnS (R 1) m L g w))) 1 7) + 1)) 1 9 (((((upR (upR R2 1 6 ((R2 1 6) + nI (mnS (R 1) m L g w))) 1 7 (((upR R2 1 6 ((R2 1 6) + nI (mnS (R 1) m L g w))) 1 7) + 1))) 1 9) ^^^ nI g))) 1 8 (1 - nI w))) = some (r, I', R') ∧ RL E F' G' P' N' I' R' := by
            refine ⟨_, _, _, _, _, _, _, rfl, rfl, ?_⟩
            obtain ⟨⟨z1, z2, z3, z4⟩, im, tr, sl⟩ := a2'
            obtain ⟨y0, ⟨y1, y1'⟩, ⟨y2, y2'⟩, ⟨y3, y3'⟩, ⟨y4, y4'⟩, ⟨y5, y5'⟩, ⟨y6, y6'⟩, ⟨y7, y7'⟩, y8, y9⟩ := z1
            have hxa : a ^^^ g < 2 ^ m := Nat.xor_lt_two_pow n7 hg
            refine ⟨m, k, r, b, t, 1 - w, a ^^^ g, L, be, he, oi, ⟨⟨⟨by omega, n2, n3, n4, n5, by omega, hxa⟩, ?_, ?_, ?_, ?_, ?_, ?_, ?_, ?_, ?_⟩, Ppl_cg (fun j j1 j2 => ?_) hm z2, ?_, Nit_cg (k := k) ?_ (fun j j1 j2 => ?_) (Nat.le_refl _) z4⟩, ?_, ?_, Stl_cg (fun j j1 j2 => ?_) hm ?_ ?_ rfl rfl (fun _ _ => rfl) sl⟩
            all_goals (try simp only [q_upS])
            · exact ⟨by simp [upd, y1], by simp [upd, y1']⟩
            · exact ⟨by simp [upd, y2], by simp [upd, y2']⟩
            · exact ⟨by simp [upd, y3], by simp [upd, y3']⟩
            · exact ⟨by simp [upd, y4], by simp [upd, y4']⟩
            · exact ⟨by simp [upd, y5], by simp [upd, y5']⟩
            · exact ⟨by simp [upd, q_1w n6], by simp [upd, y6', q_1w n6]⟩
            · exact ⟨by simp [upd, y7, q_xor a ha6 g (by omega)], by simp [upd, y7', q_xor a ha6 g (by omega)]⟩
            · simp [upd, y8]
            · simp [upd, y9]
            · simp only [upd]; rw [if_neg (by omega), if_neg (by omega), if_neg (by omega), if_neg (by omega)]
            · obtain ⟨w1, w2, w3⟩ := z3
              refine ⟨fun j hj => ?_, fun j hj => ?_, fun j hj => ?_⟩
              · obtain ⟨xa, xc, u1, u2, u3, u4, u5, u6, u7, u8⟩ := w1 j hj
                refine ⟨xa, xc, u1, u2, u3, u4, u5, ?_, u7, ?_⟩
                · simp only [upd]; rw [if_neg (by omega), if_neg (by omega), if_neg (by omega), if_neg (by omega)]; exact u6
                · simp only [upd]; rw [if_neg (by omega), if_neg (by omega), if_neg (by omega), if_neg (by omega)]; exact u8
              · obtain ⟨xa, u1, u2, u3, u4⟩ := w2 j hj
                refine ⟨xa, u1, u2, u3, ?_⟩
                simp only [upd]; rw [if_neg (by omega), if_neg (by omega), if_neg (by omega), if_neg (by omega)]; exact u4
              · obtain ⟨xc, u1, u2, u3⟩ := w3 j hj
                refine ⟨xc, u1, u2, ?_⟩
                simp only [upd]; rw [if_neg (by omega), if_neg (by omega), if_neg (by omega), if_neg (by omega)]; exact u3
            · simp [upd]
            · simp only [upd]; rw [if_neg (by omega), if_neg (by omega), if_neg (by omega), if_neg (by omega)]
            · unfold Img at im ⊢
              simp only [q_upN (show (2 : Nat) ≠ 1 by decide), q_upN (show (0 : Nat) ≠ 1 by decide)]
              exact im
            · unfold Trc at tr ⊢
              simp only [q_upN (show (19 : Nat) ≠ 1 by decide)]
              exact tr
            · simp only [upd]; rw [if_neg (by omega), if_neg (by omega), if_neg (by omega), if_neg (by omega)]
            · simp only [q_upN (show (0 : Nat) ≠ 1 by decide)]
            · simp only [q_upN (show (3 : Nat) ≠ 1 by decide)]
          by_cases ho : oi = 0
          · rw [ho, if_pos (show nI 0 ≤ 0 by decide), if_pos (show nI 0 ≤ 0 by decide)]
            exact done
          · have hoi := hTl.2.2.1
            have hno : ¬ nI oi ≤ 0 := nI_nle (by omega) (by omega)
            rw [if_neg hno, if_neg hno, e8]
            rw [e8] at done
            by_cases hle : R2 1 6 + nI (mnS (R 1) m L g w) ≤ nI oi
            · rw [if_pos hle, if_pos hle]
              exact done
            · rw [if_neg hle, if_neg hle]
              exact ⟨-3, F1, G1, P1, N1, I2, R2, rfl, rfl, a2'.rl⟩
    · rw [isS_c0 hm f5 hS, isS_0 hm h0 hS]
      exact ⟨-2, F, G, P, N, I, R, rfl, rfl, h'⟩
theorem st_looked {n : Nat} {v1 : Int32} {E : PE} {F G : Nat → Nat → Int32} {P : Nat → Nat → Option Nat} {N : Nat → Nat} {I : Nat → Int32} {R : Nat → Nat → Int32} (hn : 300000000 ≤ n) (h : RL E F G P N I R) : OKi E (p_LB_looked n E v1 F G P N) (p_Md_looked n v1 I R) := by
  have h' := h
  obtain ⟨m, k, r, b, t, w, a, L, be, he, oi, h⟩ := h
  obtain ⟨hm, h0, hB, hL, hTl⟩ := SR_go h.1
  have h64 := q_p2 m (by omega)
  have f5 : F 1 5 = nI m := h.1.1.2.1.2
  unfold p_LB_looked p_Md_looked
  rcases inR (n := n) (x := v1) (c := 1) (C := 1) (by omega) rfl with ⟨i1, i2⟩ | ⟨i1, i2, i3, i4⟩ | ⟨y, hy, rfl, i2, i3, i4, i5⟩
  · rw [if_pos i1, i2]; exact ⟨-1, F, G, P, N, I, R, rfl, rfl, h'⟩
  · rw [if_neg i1, if_neg i3, i4]; exact ⟨-1, F, G, P, N, I, R, rfl, rfl, h'⟩
  · rw [if_neg i3, if_pos i4, i2, Option.bind_some, if_neg (show ¬ (1 : Int32) = 0 by decide)]
    obtain ⟨F1, G1, P1, N1, a1, a2, a3, a4, a5, a6, a7⟩ := refreshC (n := n) h (by omega)
    obtain ⟨⟨n1, n2, n3, n4, n5, n6, n7⟩, -, -, -, ⟨q3, f14⟩, -, ⟨q8, f7⟩, ⟨q9, f6⟩, -, -⟩ := h.1.1
    have ha6 : a < 64 := by omega
    have hbk := a2.1.2.2.1.2.1
    rw [a1, Option.bind_some]
    dsimp only
    have f51 : F1 1 5 = nI m := by rw [a3]; exact f5
    have f141 : F1 1 14 = nI b := by rw [a3]; exact f14
    have loop : ∀ (c i kc km a' w' : Nat) (v4 : Int32) (I2 : Nat → Int32) (R2 : Nat → Nat → Int32), b - i = c → i ≤ b → c < kc → c < km → a' < 2 ^ m → w' ≤ 1 → Lk I I2 R R2 → ∃ (z : Int32) (I3 : Nat → Int32) (R3 : Nat → Nat → Int32), l_LB_looked_37 n E (nI y) F1 G1 P1 N1 kc (nI a') (nI w') v4 (nI i) = some (z, F1, G1, P1, N1) ∧ l_Md_looked_33 n (nI y) km (nI a') (nI w') v4 (nI i) I2 R2 = some (z, I3, R3) ∧ Lk I I3 R R3 := by
      intro c
      induction c with
      | zero =>
        intro i kc km a' w' v4 I2 R2 hc hi h1 h2 ha' hw' hl
        obtain ⟨kc, rfl⟩ : ∃ x, kc = x + 1 := ⟨kc - 1, by omega⟩
        obtain ⟨km, rfl⟩ : ∃ x, km = x + 1 := ⟨km - 1, by omega⟩
        have e : i = b := by omega
        subst e
        have es : R2 1 = R 1 := hl.2 1 (by decide) (by decide)
        refine ⟨if nI y = 0 then -5 else v4, I2, R2, ?_, ?_, hl⟩
        · rw [l_LB_looked_37, f141, if_pos (Int32.le_refl _)]
          by_cases hy0 : nI y = 0
          · rw [if_pos hy0, if_pos hy0]
          · rw [if_neg hy0, if_neg hy0]
        · rw [l_Md_looked_33, es, q3, if_pos (Int32.le_refl _)]
          by_cases hy0 : nI y = 0
          · rw [if_pos hy0, if_pos hy0]
          · rw [if_neg hy0, if_neg hy0]
      | succ c ih =>
        intro i kc km a' w' v4 I2 R2 hc hi h1 h2 ha' hw' hl
        obtain ⟨kc, rfl⟩ : ∃ x, kc = x + 1 := ⟨kc - 1, by omega⟩
        obtain ⟨km, rfl⟩ : ∃ x, km = x + 1 := ⟨km - 1, by omega⟩
        have hib : i < b := by omega
        have es : R2 1 = R 1 := hl.2 1 (by decide) (by decide)
        obtain ⟨g, g1, g2, g3, g4⟩ := hbk i hib
        have hx12 : ix (nI i) 12 := nI_in (by omega) (by omega)
        have hx58 : ix (nI (58 + i)) 890 := nI_in (by omega) (by omega)
        have hsub := subC hm ha' hw' g2
        have eb : (if nI w' = 1 then some (nI a') else (p_St_everybody n E F1 G1 P1 N1).bind fun x11 => some (x11 &&& (nI a' ^^^ (-1))) : Option Int32) = some (nI (bw m (2 * a' + w'))) := by
          have := withL (n := n) (E := E) (F := upR (upR F1 1 6 (nI a')) 1 7 (nI w')) (G := G1) (P := P1) (N := N1) hm (by rw [q_upE (by omega), q_upE (by omega)]; exact f51) (by rw [q_upE (by omega), q_upV]) q_upV ha' hw'
          unfold p_St_withLantern at this
          rw [q_upV, show (upR (upR F1 1 6 (nI a')) 1 7 (nI w')) 1 6 = nI a' by rw [q_upE (by omega), q_upV], q_Ceb hm (show (upR (upR F1 1 6 (nI a')) 1 7 (nI w')) 1 5 = nI m by rw [q_upE (by omega), q_upE (by omega)]; exact f51)] at this
          rw [q_Ceb hm f51]
          cases hcase : (if nI w' = 1 then some (nI a') else (some (nI (2 ^ m - 1))).bind fun x11 => some (x11 &&& (nI a' ^^^ (-1))) : Option Int32) with
          | none => rw [hcase] at this; exact absurd this (by simp)
          | some q => rw [hcase] at this; exact this
        rw [l_LB_looked_37, l_Md_looked_33, f141, es, q3, if_neg (nI_ge hib (by omega)), if_neg (nI_ge hib (by omega)), if_pos hx12, show (58 : Int32) + nI i = nI (58 + i) from nI_add 58 i, if_pos hx58, nI_clamp (by omega), nI_clamp (by omega), g3, g4, eb, Option.bind_some, hereM (by omega) (by omega) hw', Option.bind_some]
        cases hh : hr g a' w'
        · rw [if_neg (show ¬ (nI g &&& (nI (bw m (2 * a' + w')) ^^^ (-1)) = 0) from fun q => by rw [hsub.mp q] at hh; exact absurd hh (by decide)), if_pos (show b2i false = 0 from rfl)]
          refine ⟨if nI y = 0 then nI i else v4, I2, R2, ?_, ?_, hl⟩
          · by_cases hy0 : nI y = 0
            · rw [if_pos hy0, if_pos hy0]
            · rw [if_neg hy0, if_neg hy0]
          · by_cases hy0 : nI y = 0
            · rw [if_pos hy0, if_pos hy0]
            · rw [if_neg hy0, if_neg hy0]
        · obtain ⟨I3, R3, c1, c2⟩ := canM (n := n) (w := w') (I := I2) (by omega) hL hTl es hm h0 hB g2
          have es3 : R3 1 = R 1 := by rw [c2.2 1 (by decide) (by decide), es]
          rw [if_pos (hsub.mpr hh), if_neg (show ¬ b2i true = 0 by decide), canBeC (Tb_W a5) hm g1 g2 hw', c1, Option.bind_some, Option.bind_some]
          dsimp only
          cases hcn : cnS (R 1) m L be he g w'
          · rw [if_pos (show b2i false = 0 from rfl), if_pos (show b2i false = 0 from rfl)]
            refine ⟨if nI y = 0 then nI i else v4, I3, R3, ?_, ?_, hl.trans c2⟩
            · by_cases hy0 : nI y = 0
              · rw [if_pos hy0, if_pos hy0]
              · rw [if_neg hy0, if_neg hy0]
            · by_cases hy0 : nI y = 0
              · rw [if_pos hy0, if_pos hy0]
              · rw [if_neg hy0, if_neg hy0]
          · obtain ⟨I4, R4, d1, d2⟩ := minutesM (n := n) (w := w') (I := I3) (by omega) hL es3 hm h0 hB g2 hw'
            rw [if_neg (show ¬ b2i true = 0 by decide), if_neg (show ¬ b2i true = 0 by decide), minOfC (Tb_W a5) hm g1 g2 hw', d1, Option.bind_some, Option.bind_some]
            dsimp only
            rw [q_xor a' (by omega) g (by omega), q_1w hw', nI_1]
            exact ih (i + 1) kc km (a' ^^^ g) (1 - w') (v4 + nI (mnS (R 1) m L g w')) I4 R4 (by omega) (by omega) (by omega) (by omega) (Nat.xor_lt_two_pow ha' g2) (by omega) ((hl.trans c2).trans d2)
    obtain ⟨z, I3, R3, l1, l2, l3⟩ := loop b 0 n n a w 0 I R (by omega) (by omega) (by omega) (by omega) n7 n6 (Lk.rfl' I R)
    refine ⟨z, F1, G1, P1, N1, I3, R3, ?_, ?_, (RLp_Lw a2 l3.w).rl⟩
    · rw [show F1 1 6 = nI a by rw [a3]; exact f6, show F1 1 7 = nI w by rw [a3]; exact f7]
      exact l1
    · rw [q9, q8]
      exact l2
