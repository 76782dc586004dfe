/-! ===== the relation between the class and the model ===== -/
def Num (f s : Nat → Int32) (m k r b t w a : Nat) : Prop := (m ≤ 6 ∧ k ≤ 5 ∧ r ≤ 12 ∧ b ≤ 12 ∧ t ≤ 100 ∧ w ≤ 1 ∧ a < 2 ^ m) ∧ (s 0 = nI m ∧ f 5 = nI m) ∧ (s 1 = nI k ∧ f 3 = nI k) ∧ (s 2 = nI r ∧ f 12 = nI r) ∧ (s 3 = nI b ∧ f 14 = nI b) ∧ (s 4 = nI t ∧ f 1 = nI t) ∧ (s 8 = nI w ∧ f 7 = nI w) ∧ (s 9 = nI a ∧ f 6 = nI a) ∧ f 8 = s 6 ∧ f 9 = s 7
def Ppl (E : PE) (pp : Nat → Option Nat) (s : Nat → Int32) (m : Nat) : Prop := VB s m ∧ (∀ i, i < m → ∃ q, pp i = some q ∧ isW E s i q) ∧ ∀ i, i < 6 → Option.all (eV E) (pp i) = true
def Rws (rs rm bk tp s : Nat → Int32) (m r b t : Nat) : Prop := (∀ j, j < r → ∃ a c, 1 ≤ a ∧ a < 2 ^ m ∧ 1 ≤ c ∧ c ≤ 99 ∧ rs j = nI a ∧ s (34 + j) = nI a ∧ rm j = nI c ∧ s (46 + j) = nI c) ∧ (∀ j, j < b → ∃ a, 1 ≤ a ∧ a < 2 ^ m ∧ bk j = nI a ∧ s (58 + j) = nI a) ∧ ∀ j, j < t → ∃ c, c ≤ 127 ∧ tp j = nI c ∧ s (70 + j) = nI c
def Nit (E : PE) (nn : Nat) (s : Nat → Int32) (k : Nat) (L : List Cls) (be he oi : Nat) : Prop := eN E nn = true ∧ NgC (eT E nn) (eI E nn) (eR E nn) L ∧ NgM s L ∧ tlM s be he oi ∧ (eI E nn 0 = nI be ∧ eI E nn 1 = nI he ∧ eI E nn 2 = nI oi) ∧ (s 5 = (-1) ∨ ∃ act, act < k ∧ s 5 = nI act)
def SR (E : PE) (f tp rs rm bk : Nat → Int32) (pp : Nat → Option Nat) (nn : Nat) (s : Nat → Int32) (m k r b t w a : Nat) (L : List Cls) (be he oi : Nat) : Prop := Num f s m k r b t w a ∧ Ppl E pp s m ∧ Rws rs rm bk tp s m r b t ∧ Nit E nn s k L be he oi
def TbV (G : Nat → Nat → Int32) (s : Nat → Int32) (m : Nat) (L : List Cls) (be he : Nat) : Prop := ∀ a w, 1 ≤ a → a < 2 ^ m → w ≤ 1 → G (19 + w) a = nI (mnS s m L a w) ∧ G (22 + w) a = b2i (cnS s m L be he a w)
def Img (E : PE) (F G : Nat → Nat → Int32) (P : Nat → Nat → Option Nat) (N : Nat → Nat) (I : Nat → Int32) (R : Nat → Nat → Int32) : Prop := ∃ im : Bool, F 0 2 = b2i im ∧ I 3 = b2i im ∧ (im = true → ∃ (m k r b t w a : Nat) (L : List Cls) (be he oi : Nat), SR E (F 2) (G 7) (G 12) (G 14) (G 16) (P 9) (N 2) (R 2) m k r b t w a L be he oi)
def Trc (G : Nat → Nat → Int32) (I : Nat → Int32) (R : Nat → Nat → Int32) : Prop := ∃ c, c ≤ 20 ∧ I 20 = nI c ∧ G 5 0 = nI c ∧ ∀ j, j < c → G 5 (1 + j) = R 19 j
def Stl (E : PE) (F G : Nat → Nat → Int32) (P : Nat → Nat → Option Nat) (N : Nat → Nat) (s : Nat → Int32) (m : Nat) (L : List Cls) (be he : Nat) : Prop := F 0 6 = 1 ∨ (F 0 6 = 0 ∧ GoV E F P N s m L be he ∧ TbV G s m L be he)
def RLp (E : PE) (F G : Nat → Nat → Int32) (P : Nat → Nat → Option Nat) (N : Nat → Nat) (I : Nat → Int32) (R : Nat → Nat → Int32) (m k r b t w a : Nat) (L : List Cls) (be he oi : Nat) : Prop := SR E (F 1) (G 6) (G 11) (G 13) (G 15) (P 8) (N 1) (R 1) m k r b t w a L be he oi ∧ Img E F G P N I R ∧ Trc G I R ∧ Stl E F G P N (R 1) m L be he
def RL (E : PE) (F G : Nat → Nat → Int32) (P : Nat → Nat → Option Nat) (N : Nat → Nat) (I : Nat → Int32) (R : Nat → Nat → Int32) : Prop := ∃ (m k r b t w a : Nat) (L : List Cls) (be he oi : Nat), RLp E F G P N I R m k r b t w a L be he oi
/-- the model's other cells don't count -/
theorem RLp_M {E : PE} {F G : Nat → Nat → Int32} {P : Nat → Nat → Option Nat} {N : Nat → Nat} {I I' : Nat → Int32} {R R' : Nat → Nat → Int32} {m k r b t w a : Nat} {L : List Cls} {be he oi : Nat} (h : RLp E F G P N I R m k r b t w a L be he oi) (i3 : I' 3 = I 3) (i20 : I' 20 = I 20) (r1 : R' 1 = R 1) (r2 : R' 2 = R 2) (r19 : R' 19 = R 19) : RLp E F G P N I' R' m k r b t w a L be he oi := by
  obtain ⟨h1, h2, h3, h4⟩ := h
  refine ⟨by rw [r1]; exact h1, ?_, ?_, by rw [r1]; exact h4⟩
  · unfold Img at h2 ⊢
    rw [i3, r2]; exact h2
  · unfold Trc at h3 ⊢
    rw [i20, r19]; exact h3
/-- nor do the class' facts and measures -/
theorem RLp_G {E : PE} {F G G' : Nat → Nat → Int32} {P : Nat → Nat → Option Nat} {N : Nat → Nat} {I : Nat → Int32} {R : Nat → Nat → Int32} {m k r b t w a : Nat} {L : List Cls} {be he oi : Nat} (h : RLp E F G P N I R m k r b t w a L be he oi) (hG : ∀ k, k ≠ 17 → k ≠ 24 → k ≠ 25 → G' k = G k) : RLp E F G' P N I R m k r b t w a L be he oi := by
  obtain ⟨h1, h2, h3, h4⟩ := h
  have g5 := hG 5 (by decide) (by decide) (by decide)
  have g6 := hG 6 (by decide) (by decide) (by decide)
  have g7 := hG 7 (by decide) (by decide) (by decide)
  have g11 := hG 11 (by decide) (by decide) (by decide)
  have g12 := hG 12 (by decide) (by decide) (by decide)
  have g13 := hG 13 (by decide) (by decide) (by decide)
  have g14 := hG 14 (by decide) (by decide) (by decide)
  have g15 := hG 15 (by decide) (by decide) (by decide)
  have g16 := hG 16 (by decide) (by decide) (by decide)
  refine ⟨by rw [g6, g11, g13, g15]; exact h1, ?_, ?_, ?_⟩
  · unfold Img at h2 ⊢
    rw [g7, g12, g14, g16]; exact h2
  · unfold Trc at h3 ⊢
    rw [g5]; exact h3
  · rcases h4 with h4 | ⟨h4, h5, h6⟩
    · exact Or.inl h4
    · refine Or.inr ⟨h4, h5, fun a w a1 a2 a3 => ?_⟩
      rw [hG (19 + w) (by omega) (by omega) (by omega), hG (22 + w) (by omega) (by omega) (by omega)]
      exact h6 a w a1 a2 a3
theorem SR_go {E : PE} {f tp rs rm bk : Nat → Int32} {pp : Nat → Option Nat} {nn : Nat} {s : Nat → Int32} {m k r b t w a : Nat} {L : List Cls} {be he oi : Nat} (h : SR E f tp rs rm bk pp nn s m k r b t w a L be he oi) : m ≤ 6 ∧ s 0 = nI m ∧ VB s m ∧ NgM s L ∧ tlM s be he oi := ⟨h.1.1.1, h.1.2.1.1, h.2.1.1, h.2.2.2.2.2.1, h.2.2.2.2.2.2.1⟩
theorem q_or64 : ∀ a, a < 64 → ∀ b, b < 64 → a ||| b < 64 := by decide +kernel
theorem cls_3 : ∀ k, k ≤ 6 → wUn (clsOf (nI k)) 3 = decide (nI k = 4) := by decide +kernel
theorem q_upPs {P : Nat → Nat → Option Nat} {k j : Nat} {x : Option Nat} : upP P k j x k j = x := by simp only [upP, va_up, if_true]
theorem q_upPn {P : Nat → Nat → Option Nat} {k j k' j' : Nat} {x : Option Nat} (h : ¬ (k' = k ∧ j' = j)) : upP P k j x k' j' = P k' j' := by
  unfold upP va_up
  by_cases e : k' = k
  · subst e
    rw [if_pos rfl, if_neg (fun q => h ⟨rfl, q⟩)]
  · rw [if_neg e]
theorem q_upPk {P : Nat → Nat → Option Nat} {k j k' : Nat} {x : Option Nat} (h : k' ≠ k) : upP P k j x k' = P k' := by
  unfold upP va_up
  rw [if_neg h]
theorem layF31 {n m : Nat} {E : PE} {F0 G : Nat → Nat → Int32} {P0 : Nat → Nat → Option Nat} {N : Nat → Nat} {s : Nat → Int32} (hm : m ≤ 6) (f31 : F0 3 1 = nI m) (f33 : F0 3 3 = 0) (hP : Ppl E (P0 8) s m) (hn : 1000 ≤ n) :
    ∃ F' P', l_Go_layFor_ad1_31 n E n 0 F0 G P0 N = some (F', G, P', N) ∧ (∀ k j, ¬ (k = 3 ∧ j = 3) → F' k j = F0 k j) ∧ (∃ lb, lb < 64 ∧ F' 3 3 = nI lb ∧ ∀ q, q < 6 → bt lb q = (decide (q < m) && decide (s (10 + q) = 4))) ∧ (∀ k, k ≠ 10 → P' k = P0 k) ∧ ∀ j, j < 6 → P' 10 j = P0 8 j := by
  obtain ⟨z, h1, F', P', h2, h3⟩ := q_lp (fun k i (u : (Nat → Nat → Int32) × (Nat → Nat → Option Nat)) => l_Go_layFor_ad1_31 n E k (nI i) u.1 G u.2 N) 6 (fun i u => (∀ k j, ¬ (k = 3 ∧ j = 3) → u.1 k j = F0 k j) ∧ (∃ lb, lb < 64 ∧ u.1 3 3 = nI lb ∧ ∀ q, q < 6 → bt lb q = (decide (q < i) && (decide (q < m) && decide (s (10 + q) = 4)))) ∧ (∀ k, k ≠ 10 → u.2 k = P0 k) ∧ ∀ j, j < i → u.2 10 j = P0 8 j) (fun z => ∃ F' P', z = (F', G, P', N) ∧ (∀ k j, ¬ (k = 3 ∧ j = 3) → F' k j = F0 k j) ∧ (∃ lb, lb < 64 ∧ F' 3 3 = nI lb ∧ ∀ q, q < 6 → bt lb q = (decide (q < m) && decide (s (10 + q) = 4))) ∧ (∀ k, k ≠ 10 → P' k = P0 k) ∧ ∀ j, j < 6 → P' 10 j = P0 8 j) (fun k u hu => by
      obtain ⟨u1, u2⟩ := u
      dsimp only at hu
      obtain ⟨r1, ⟨lb, r2, r3, r4⟩, r5, r6⟩ := hu
      refine ⟨(u1, G, u2, N), rfl, u1, u2, rfl, r1, ⟨lb, r2, r3, fun q hq => by rw [r4 q hq, decide_eq_true hq, Bool.true_and]⟩, r5, r6⟩) (fun k i u hi hu => by
      obtain ⟨u1, u2⟩ := u
      dsimp only at hu
      obtain ⟨r1, ⟨lb, r2, r3, r4⟩, r5, r6⟩ := hu
      have r1' : ∀ k j, ¬ (k = 3 ∧ j = 3) → u1 k j = F0 k j := r1
      have r3' : u1 3 3 = nI lb := r3
      have r5' : ∀ k, k ≠ 10 → u2 k = P0 k := r5
      have r6' : ∀ j, j < i → u2 10 j = P0 8 j := r6
      have hx : ix (nI i) 6 := nI_in hi (by omega)
      show ∃ a' : (Nat → Nat → Int32) × (Nat → Nat → Option Nat), l_Go_layFor_ad1_31 n E (k + 1) (nI i) u1 G u2 N = l_Go_layFor_ad1_31 n E k (nI (i + 1)) a'.1 G a'.2 N ∧ _
      rw [l_Go_layFor_ad1_31, if_neg (show ¬ (6 : Int32) ≤ nI i from nI_ge (b := 6) hi (by omega)), if_pos hx]
      simp only [nI_clamp (show i < 2 ^ 31 by omega)]
      rw [r5' 8 (by decide)]
      have hall := hP.2.2 i hi
      have pk : ∀ k, k ≠ 10 → upP u2 10 i (P0 8 i) k = P0 k := fun k hk => by rw [q_upPk hk, r5' k hk]
      have p10 : ∀ j, j < i + 1 → upP u2 10 i (P0 8 i) 10 j = P0 8 j := fun j hj => by
        by_cases e : j = i
        · subst e; exact q_upPs
        · rw [q_upPn (fun q => e q.2), r6' j (by omega)]
      show ∃ a' : (Nat → Nat → Int32) × (Nat → Nat → Option Nat), (if ix (nI i) 6 then if Option.all (eV E) (P0 8 i) = true then ((if (u1 3 1) ≤ nI i then some (u1, G, (upP u2 10 i (P0 8 i)), N) else if ix (nI i) 6 then (some ((upP u2 10 i (P0 8 i)) 10 i)).bind fun q13 => (Option.elim q13 (none) (fun a14 => if eV E a14 = true then (if (if wUn (eC E a14) 3 = true then (1 : Int32) else 0) = 0 then some (u1, G, (upP u2 10 i (P0 8 i)), N) else some ((upR u1 3 3 (((u1 3 3) ||| (1 <<< (nI i &&& 31))))), G, (upP u2 10 i (P0 8 i)), N)) else none)) else none : Option ((Nat → Nat → Int32) × (Nat → Nat → Int32) × (Nat → Nat → Option Nat) × (Nat → Nat)))).bind fun (F8, G9, P10, N11) => l_Go_layFor_ad1_31 n E k (nI i + 1) F8 G9 P10 N11 else none else none) = l_Go_layFor_ad1_31 n E k (nI (i + 1)) a'.1 G a'.2 N ∧ _
      rw [if_pos hx, if_pos hall, r1' 3 1 (by omega), f31, nI_1]
      by_cases him : m ≤ i
      · rw [if_pos (nI_le him (by omega))]
        refine ⟨(u1, upP u2 10 i (P0 8 i)), rfl, r1', ⟨lb, r2, r3', fun q hq => ?_⟩, pk, p10⟩
        rw [r4 q hq]
        by_cases e : q < m
        · rw [decide_eq_true (show q < i by omega), decide_eq_true (show q < i + 1 by omega)]
        · rw [decide_eq_false e, Bool.false_and, Bool.and_false, Bool.and_false]
      · obtain ⟨q0, hq1, hq2⟩ := hP.2.1 i (by omega)
        obtain ⟨kk, v, pc, wt, vk, vv, vp, vw, k6, v9, p1, p30, w9⟩ := hP.1 i (by omega)
        rw [if_neg (nI_ge (by omega) (by omega)), if_pos hx, q_upPs, hq1]
        have hcl : wUn (eC E q0) 3 = decide (s (10 + i) = 4) := by rw [hq2.2.1, vk]; exact cls_3 kk k6
        have bits : ∀ (lb' : Nat), (∀ q, q < 6 → bt lb' q = (bt lb q || (decide (q = i) && decide (s (10 + q) = 4)))) → ∀ q, q < 6 → bt lb' q = (decide (q < i + 1) && (decide (q < m) && decide (s (10 + q) = 4))) := by
          intro lb' hb q hq
          rw [hb q hq, r4 q hq]
          by_cases e : q = i
          · subst e
            rw [decide_eq_false (Nat.lt_irrefl _), decide_eq_true (show q = q from rfl), decide_eq_true (show q < q + 1 by omega), decide_eq_true (show q < m by omega)]
            cases decide (s (10 + q) = 4) <;> rfl
          · rw [decide_eq_false e]
            by_cases e2 : q < i
            · rw [decide_eq_true e2, decide_eq_true (show q < i + 1 by omega), Bool.false_and, Bool.or_false]
            · rw [decide_eq_false e2, decide_eq_false (show ¬ q < i + 1 by omega)]; rfl
        show ∃ a' : (Nat → Nat → Int32) × (Nat → Nat → Option Nat), ((if eV E q0 = true then (if (if wUn (eC E q0) 3 = true then (1 : Int32) else 0) = 0 then some (u1, G, (upP u2 10 i (some q0)), N) else some ((upR u1 3 3 (((u1 3 3) ||| (1 <<< (nI i &&& 31))))), G, (upP u2 10 i (some q0)), N)) else none : Option ((Nat → Nat → Int32) × (Nat → Nat → Int32) × (Nat → Nat → Option Nat) × (Nat → Nat)))).bind _ = _ ∧ _
        rw [if_pos hq2.1, hcl]
        rw [hq1] at pk p10
        by_cases e4 : s (10 + i) = 4
        · rw [decide_eq_true e4, if_pos rfl, if_neg (by decide), r3', q_one i (by omega), q_or _ r2 _ (q_pw i hi)]
          refine ⟨(upR u1 3 3 (nI (lb ||| 2 ^ i)), upP u2 10 i (some q0)), rfl, fun k j hkj => by show upR u1 3 3 (nI (lb ||| 2 ^ i)) k j = _; rw [q_upE hkj]; exact r1' k j hkj, ⟨lb ||| 2 ^ i, q_or64 _ r2 _ (q_pw i hi), by show upR u1 3 3 (nI (lb ||| 2 ^ i)) 3 3 = _; exact q_upV, bits _ (fun q hq => ?_)⟩, pk, p10⟩
          show (lb ||| 2 ^ i).testBit q = (lb.testBit q || _)
          rw [Nat.testBit_or, Nat.testBit_two_pow]
          by_cases e : i = q
          · subst e
            rw [decide_eq_true rfl, decide_eq_true e4]; simp
          · rw [decide_eq_false e, decide_eq_false (fun h => e h.symm)]; simp
        · rw [decide_eq_false e4, if_neg (show ¬ (false = true) by decide), if_pos rfl]
          refine ⟨(u1, upP u2 10 i (some q0)), rfl, r1', ⟨lb, r2, r3', bits _ (fun q hq => ?_)⟩, pk, p10⟩
          by_cases e : q = i
          · subst e
            rw [decide_eq_false e4, Bool.and_false, Bool.or_false]
          · rw [decide_eq_false e, Bool.false_and, Bool.or_false]) 0 (F0, P0) n (by omega) (by omega) ⟨fun _ _ _ => rfl, ⟨0, by omega, f33, fun q hq => by
        rw [decide_eq_false (Nat.not_lt_zero q)]
        show (0 : Nat).testBit q = _
        rw [Nat.zero_testBit]; rfl⟩, fun _ _ => rfl, fun j hj => absurd hj (by omega)⟩
  exact ⟨F', P', by rw [show l_Go_layFor_ad1_31 n E n 0 F0 G P0 N = some z from h1, h2], h3⟩
theorem layForC {n m k r b t w a : Nat} {E : PE} {F G : Nat → Nat → Int32} {P : Nat → Nat → Option Nat} {N : Nat → Nat} {s : Nat → Int32} {L : List Cls} {be he oi : Nat} (h : SR E (F 1) (G 6) (G 11) (G 13) (G 15) (P 8) (N 1) s m k r b t w a L be he oi) (hn : 1000 ≤ n) :
    ∃ F' G' P', p_Go_layFor_ad1 n E F G P N = some (F', G', P', upN N 3 (N 1)) ∧ (∀ k, k ≠ 3 → F' k = F k) ∧ (∀ k, k ≠ 10 → P' k = P k) ∧ (∀ k, k ≠ 17 → k ≠ 19 → k ≠ 20 → k ≠ 22 → k ≠ 23 → G' k = G k) ∧ GoV E F' P' (upN N 3 (N 1)) s m L be he ∧ TbV G' s m L be he := by
  obtain ⟨hm, h0, hB, hL, hT⟩ := SR_go h
  have hP := h.2.1
  have hNi := h.2.2.2
  have h64 := q_p2 m (by omega)
  have f5 : F 1 5 = nI m := h.1.2.1.2
  unfold p_Go_layFor_ad1
  have e5 : (upR F 3 1 (F 1 5)) 1 5 = nI m := by rw [q_upN (by decide), f5]
  rw [q_Ceb hm e5]
  obtain ⟨F1, P1, a1, a2, a3, a4, a5⟩ := layF31 (n := n) (E := E) (F0 := upR (upR (upR F 3 1 (F 1 5)) 3 2 (nI (2 ^ m - 1))) 3 3 0) (G := G) (P0 := P) (N := upN N 3 (N 1)) hm (by rw [q_upE (by omega), q_upE (by omega), q_upV, f5]) q_upV hP hn
  have n3 : upN N 3 (N 1) 3 = N 1 := by simp only [upN, va_up, if_true]
  have hV : GoV E F1 P1 (upN N 3 (N 1)) s m L be he := by
    refine ⟨?_, ?_, a3, fun i hi => ?_, by rw [n3]; exact hNi.1, by rw [n3]; exact hNi.2.1, by rw [n3]; exact hNi.2.2.2.2.1.1, by rw [n3]; exact hNi.2.2.2.2.1.2.1⟩
    · rw [a2 3 1 (by omega), q_upE (by omega), q_upE (by omega), q_upV, f5]
    · rw [a2 3 2 (by omega), q_upE (by omega), q_upV]
    · rw [a5 i (by omega)]
      exact hP.2.1 i hi
  obtain ⟨G1, b1, b2, b3⟩ := layMinC (G := G) (so := 2 ^ m - 1) hV hB hm (by omega) hn
  obtain ⟨G2, c1, c2, c3⟩ := layCanC (G := G1) hV hB hm hT.1 hT.2.1 hn
  refine ⟨F1, G2, P1, ?_, fun k hk => ?_, a4, fun k k17 k19 k20 k22 k23 => by rw [c3 k k17 k22 k23, b3 k k17 k19 k20], hV, fun x y x1 x2 y1 => ⟨?_, c2 x y x1 x2 y1⟩⟩
  · show (l_Go_layFor_ad1_31 n E n 0 (upR (upR (upR F 3 1 (F 1 5)) 3 2 (nI (2 ^ m - 1))) 3 3 0) G P (upN N 3 (N 1))).bind _ = _
    rw [a1]
    show (p_Go_layMinutes n E (F1 3 2) F1 G P1 (upN N 3 (N 1))).bind _ = _
    rw [hV.2.1, b1]
    show (p_Go_layCan n E F1 G1 P1 (upN N 3 (N 1))).bind _ = _
    rw [c1]
    rfl
  · funext j
    rw [a2 k j (fun q => hk q.1), q_upN hk, q_upN hk, q_upN hk]
  · rw [c3 (19 + y) (by omega) (by omega) (by omega), b2 x y x1 x2 y1, if_neg]
    intro e
    have : x &&& (2 ^ m - 1) = x := by rw [Nat.and_two_pow_sub_one_eq_mod, Nat.mod_eq_of_lt x2]
    omega
theorem refreshC {n m k r b t w a : Nat} {E : PE} {F G : Nat → Nat → Int32} {P : Nat → Nat → Option Nat} {N : Nat → Nat} {I : Nat → Int32} {R : Nat → Nat → Int32} {L : List Cls} {be he oi : Nat} (h : RLp E F G P N I R m k r b t w a L be he oi) (hn : 1000 ≤ n) :
    ∃ F' G' P' N', p_LB_refresh n E F G P N = some (F', G', P', N') ∧ RLp E F' G' P' N' I R m k r b t w a L be he oi ∧ F' 1 = F 1 ∧ GoV E F' P' N' (R 1) m L be he ∧ TbV G' (R 1) m L be he ∧ P' 8 = P 8 ∧ N' 1 = N 1 := by
  unfold p_LB_refresh
  obtain ⟨h1, h2, h3, h4⟩ := id h
  rcases h4 with h4 | ⟨h4, h5, h6⟩
  · obtain ⟨F1, G1, P1, a1, a2, a3, a4, a5, a6⟩ := layForC h1 hn
    rw [h4, if_neg (by decide), a1]
    have n1 : upN N 3 (N 1) 1 = N 1 := by simp [upN, va_up]
    have n2 : upN N 3 (N 1) 2 = N 2 := by simp [upN, va_up]
    have fk : ∀ k, k ≠ 0 → upR F1 0 6 0 k = F1 k := fun k hk => q_upN hk
    have hV : GoV E (upR F1 0 6 0) P1 (upN N 3 (N 1)) (R 1) m L be he := by
      obtain ⟨v1, v2, v3, v4⟩ := a5
      exact ⟨by rw [fk 3 (by decide)]; exact v1, by rw [fk 3 (by decide)]; exact v2, by rw [fk 3 (by decide)]; exact v3, v4⟩
    have g := fun k (q17 : k ≠ 17) (q19 : k ≠ 19) (q20 : k ≠ 20) (q22 : k ≠ 22) (q23 : k ≠ 23) => a4 k q17 q19 q20 q22 q23
    refine ⟨_, _, _, _, rfl, ⟨?_, ?_, ?_, Or.inr ⟨q_upV, hV, a6⟩⟩, by rw [fk 1 (by decide), a2 1 (by decide)], hV, a6, a3 8 (by decide), n1⟩
    · rw [fk 1 (by decide), a2 1 (by decide), a3 8 (by decide), n1, g 6 (by decide) (by decide) (by decide) (by decide) (by decide), g 11 (by decide) (by decide) (by decide) (by decide) (by decide), g 13 (by decide) (by decide) (by decide) (by decide) (by decide), g 15 (by decide) (by decide) (by decide) (by decide) (by decide)]
      exact h1
    · unfold Img at h2 ⊢
      rw [fk 2 (by decide), a2 2 (by decide), a3 9 (by decide), n2, g 7 (by decide) (by decide) (by decide) (by decide) (by decide), g 12 (by decide) (by decide) (by decide) (by decide) (by decide), g 14 (by decide) (by decide) (by decide) (by decide) (by decide), g 16 (by decide) (by decide) (by decide) (by decide) (by decide), q_upE (by omega), a2 0 (by decide)]
      exact h2
    · unfold Trc at h3 ⊢
      rw [g 5 (by decide) (by decide) (by decide) (by decide) (by decide)]
      exact h3
  · rw [h4, if_pos rfl]
    exact ⟨F, G, P, N, rfl, h, rfl, h5, h6, rfl, rfl⟩
