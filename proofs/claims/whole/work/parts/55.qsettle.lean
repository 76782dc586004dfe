/-! ===== the class' search ===== -/
theorem jmn {a b : Nat} (ha : a < 2 ^ 31) (hb : b < 2 ^ 31) : jmin (nI a) (nI b) = nI (min a b) := by
  unfold jmin
  by_cases h : b < a
  · rw [if_pos (nI_lt h ha), Nat.min_eq_right (by omega)]
  · rw [if_neg (nI_nlt (by omega) hb), Nat.min_eq_left (by omega)]
theorem q_w1 {w : Nat} (hw : w ≤ 1) : nI w &&& 1 = nI w := by
  rcases (by omega : w = 0 ∨ w = 1) with rfl | rfl <;> rfl
theorem q_63 {a : Nat} (ha : a < 64) : nI a &&& 63 = nI a := by
  rw [pk_andN (m := 63) (by omega) 6 (by decide), Nat.mod_eq_of_lt (by omega)]
def TbW (G : Nat → Nat → Int32) (m : Nat) (cn : Nat → Nat → Bool) (mn : Nat → Nat → Nat) : Prop := ∀ a w, 1 ≤ a → a < 2 ^ m → w ≤ 1 → G (19 + w) a = nI (mn a w) ∧ G (22 + w) a = b2i (cn a w)
theorem canBeC {n m a w : Nat} {cn : Nat → Nat → Bool} {mn : Nat → Nat → Nat} {E : PE} {F G : Nat → Nat → Int32} {P : Nat → Nat → Option Nat} {N : Nat → Nat} (hT : TbW G m cn mn) (hm : m ≤ 6) (h1 : 1 ≤ a) (ha : a < 2 ^ m) (hw : w ≤ 1) : p_Go_canBe n E F G P N (nI a) (nI w) = some (b2i (cn a w)) := by
  have ha6 := isS_lt hm ha
  unfold p_Go_canBe
  rw [q_w1 hw, q_63 ha6, if_pos (nI_in (c := w) (N := 2) (by omega) (by omega)), if_pos (nI_in ha6 (by omega)), nI_clamp (by omega), nI_clamp (by omega), (hT a w h1 ha hw).2]
  cases cn a w <;> rfl
theorem minOfC {n m a w : Nat} {cn : Nat → Nat → Bool} {mn : Nat → Nat → Nat} {E : PE} {F G : Nat → Nat → Int32} {P : Nat → Nat → Option Nat} {N : Nat → Nat} (hT : TbW G m cn mn) (hm : m ≤ 6) (h1 : 1 ≤ a) (ha : a < 2 ^ m) (hw : w ≤ 1) : p_Go_minutesOf n E F G P N (nI a) (nI w) = some (nI (mn a w)) := by
  have ha6 := isS_lt hm ha
  unfold p_Go_minutesOf
  rw [q_w1 hw, q_63 ha6, if_pos (nI_in (c := w) (N := 2) (by omega) (by omega)), if_pos (nI_in ha6 (by omega)), nI_clamp (by omega), nI_clamp (by omega), (hT a w h1 ha hw).1]
theorem tb_dif {x y i : Nat} (hx : x < 64) : (dif x y).testBit i = (x.testBit i && !y.testBit i) := by
  unfold dif
  rw [Nat.testBit_and, Nat.testBit_xor, show (63 : Nat) = 2 ^ 6 - 1 from rfl, Nat.testBit_two_pow_sub_one]
  by_cases h : i < 6
  · rw [decide_eq_true h]
    cases x.testBit i <;> cases y.testBit i <;> rfl
  · have : x.testBit i = false := Nat.testBit_lt_two_pow (Nat.lt_of_lt_of_le hx (Nat.pow_le_pow_right (n := 2) (by omega) (show 6 ≤ i by omega)))
    rw [this]; rfl
def bw (m p : Nat) : Nat := if p % 2 = 1 then p / 2 else dif (2 ^ m - 1) (p / 2)
theorem dif_le {x y : Nat} : dif x y ≤ x := Nat.and_le_left
theorem bw_lt {m p : Nat} (hp : p < 2 * 2 ^ m) (hm : m ≤ 6) : bw m p < 2 ^ m := by
  have h64 := q_p2 m (by omega)
  unfold bw
  split
  · omega
  · have := dif_le (x := 2 ^ m - 1) (y := p / 2)
    omega
theorem bank_ok {m p g st : Nat} (hp : p < 2 * 2 ^ m) (hm : m ≤ 6) : (g &&& dif (bw m p) st = g) ↔ (g < 2 ^ m ∧ hr g (p / 2) (p % 2) = true ∧ g &&& st = 0) := by
  have h64 := q_p2 m (by omega)
  have hb := bw_lt hp hm
  have hgl : ∀ x, g &&& x = g → g ≤ x := fun x h => by rw [← h]; exact Nat.and_le_right
  have hdl := dif_le (x := bw m p) (y := st)
  constructor
  · intro h
    have hg : g < 2 ^ m := by have := hgl _ h; omega
    rw [q_sub] at h
    refine ⟨hg, ?_, ?_⟩
    · unfold hr
      by_cases hw : p % 2 = 1
      · rw [if_pos hw, decide_eq_true_eq, q_sub]
        intro i hi
        have := h i hi
        rw [tb_dif (by omega), Bool.and_eq_true] at this
        unfold bw at this
        rw [if_pos hw] at this
        exact this.1
      · rw [if_neg hw, decide_eq_true_eq, q_dj]
        intro i hi
        have := h i hi
        rw [tb_dif (by omega), Bool.and_eq_true] at this
        unfold bw at this
        rw [if_neg hw, tb_dif (by omega), Bool.and_eq_true] at this
        simpa using this.1.2
    · rw [q_dj]
      intro i hi
      have := h i hi
      rw [tb_dif (by omega), Bool.and_eq_true] at this
      simpa using this.2
  · rintro ⟨hg, hh, hs⟩
    rw [q_sub]
    rw [q_dj] at hs
    intro i hi
    rw [tb_dif (by omega), Bool.and_eq_true]
    refine ⟨?_, by rw [hs i hi]; rfl⟩
    unfold hr at hh
    unfold bw
    by_cases hw : p % 2 = 1
    · rw [if_pos hw] at hh ⊢
      rw [decide_eq_true_eq, q_sub] at hh
      exact hh i hi
    · rw [if_neg hw] at hh ⊢
      rw [decide_eq_true_eq, q_dj] at hh
      rw [tb_dif (by omega), hh i hi, Nat.testBit_two_pow_sub_one]
      have : i < m := by
        apply Classical.byContradiction
        intro hc
        have h9 : g.testBit i = false := q_btm hg (by omega)
        rw [h9] at hi
        exact absurd hi (by decide)
      rw [decide_eq_true this]; rfl
theorem q_pb0 : ∀ a, a < 64 → ∀ g, g < 64 → ((nI (2 * a) ^^^ (nI g <<< (1 &&& 31))) ^^^ 1) &&& 127 = nI (2 * (a ^^^ g) + 1) := by decide +kernel
theorem q_pb1 : ∀ a, a < 64 → ∀ g, g < 64 → ((nI (2 * a + 1) ^^^ (nI g <<< (1 &&& 31))) ^^^ 1) &&& 127 = nI (2 * (a ^^^ g)) := by decide +kernel
theorem behindC {n p g : Nat} (hp : p < 128) (hg : g < 64) : p_Se_placeBehind n (nI p) (nI g) = some (nI (2 * ((p / 2) ^^^ g) + (1 - p % 2))) := by
  unfold p_Se_placeBehind
  rcases (by omega : p % 2 = 0 ∨ p % 2 = 1) with h | h
  · have e : p = 2 * (p / 2) := by omega
    rw [h, show nI p = nI (2 * (p / 2)) by rw [← e], q_pb0 (p / 2) (by omega) g hg]
  · have e : p = 2 * (p / 2) + 1 := by omega
    rw [h, show nI p = nI (2 * (p / 2) + 1) by rw [← e], q_pb1 (p / 2) (by omega) g hg]
    rfl
theorem q_pa : ∀ p, p < 128 → nI p &&& 1 = nI (p % 2) := by decide +kernel
theorem q_ph : ∀ p, p < 128 → nI p >>> (1 &&& 31) = nI (p / 2) := by decide +kernel
theorem q_wy : ∀ p, p < 128 → ∀ t, t < 2 → (nI p &&& 1) ^^^ nI t = nI ((p + t) % 2) := by decide +kernel
theorem bankC {n m p : Nat} {E : PE} {F G : Nat → Nat → Int32} {P : Nat → Nat → Option Nat} {N : Nat → Nat} (hm : m ≤ 6) (hF : F 3 2 = nI (2 ^ m - 1)) (hp : p < 2 * 2 ^ m) : p_Se_bankWithLantern n E F G P N (nI p) = some (nI (bw m p)) := by
  have h64 := q_p2 m (by omega)
  unfold p_Se_bankWithLantern p_Go_everybody bw
  rw [q_pa p (by omega), q_ph p (by omega), hF]
  rcases (by omega : p % 2 = 0 ∨ p % 2 = 1) with h | h
  · rw [h, if_neg (show ¬ nI 0 = 1 by decide), if_neg (show ¬ (0 : Nat) = 1 by decide)]
    show ((some (nI (2 ^ m - 1) &&& (nI (p / 2) ^^^ (-1))) : Option Int32)).bind _ = _
    rw [q_dif _ (by omega) _ (by omega)]
    rfl
  · rw [h, if_pos (show nI 1 = 1 from rfl), if_pos (show (1 : Nat) = 1 from rfl)]
    rfl
/-- one place's goings -/
theorem settle74 {n m p st tn : Nat} {v1 v2 v4 v5 : Int32} {cnt : Bool} {cn : Nat → Nat → Bool} {mn : Nat → Nat → Nat} {M0 : Nat → Nat} {E : PE} {F G0 : Nat → Nat → Int32} {P : Nat → Nat → Option Nat} {N : Nat → Nat} (hn : 1000 ≤ n) (hm : m ≤ 6) (hp : p < 2 * 2 ^ m) (hst : st < 64) (htn : tn ≤ 1) (hT : TbW G0 m cn mn) (hmn : ∀ g w, mn g w ≤ 1050) (hM : ∀ q, q < 2 * 2 ^ m → G0 24 q = nI (M0 q) ∧ M0 q ≤ 1073741824) (hMp : M0 p ≤ 140000) :
    ∃ (G' : Nat → Nat → Int32) (M : Nat → Nat), l_Se_settleAll_74 n E v1 v2 (b2i cnt) v4 v5 (nI p) (nI ((p + tn) % 2)) (nI (dif (bw m p) st)) n 1 F G0 P N = some (F, G', P, N) ∧ (∀ k, k ≠ 24 → G' k = G0 k) ∧ (∀ q, q < 2 * 2 ^ m → G' 24 q = nI (M q) ∧ M q ≤ M0 q) ∧ M p = M0 p ∧ (∀ q, q < 2 * 2 ^ m → M q < M0 q → ∃ d, CE m st cn (fun g w => if cnt = true then 1 else mn g w) tn p q d ∧ M q = M0 p + d) ∧ (∀ q d, CE m st cn (fun g w => if cnt = true then 1 else mn g w) tn p q d → M q ≤ M0 p + d) := by
  have h64 := q_p2 m (by omega)
  have hbl := bw_lt hp hm
  have hdl := dif_le (x := bw m p) (y := st)
  have hcb : ∀ g w, (if cnt = true then 1 else mn g w) ≤ 1050 := fun g w => by
    split
    · omega
    · exact hmn g w
  obtain ⟨z, h1, G', M, h2, h3⟩ := q_lp (fun k i (G : Nat → Nat → Int32) => l_Se_settleAll_74 n E v1 v2 (b2i cnt) v4 v5 (nI p) (nI ((p + tn) % 2)) (nI (dif (bw m p) st)) k (nI (i + 1)) F G P N) (dif (bw m p) st) (fun i G => ∃ (M : Nat → Nat), (∀ k, k ≠ 24 → G k = G0 k) ∧ (∀ q, q < 2 * 2 ^ m → G 24 q = nI (M q) ∧ M q ≤ M0 q) ∧ M p = M0 p ∧ (∀ q, q < 2 * 2 ^ m → M q < M0 q → ∃ d, CE m st cn (fun g w => if cnt = true then 1 else mn g w) tn p q d ∧ M q = M0 p + d) ∧ (∀ g, 1 ≤ g → g ≤ i → g &&& dif (bw m p) st = g → cn g ((p + tn) % 2) = true → M (2 * ((p / 2) ^^^ g) + (1 - p % 2)) ≤ M0 p + (if cnt = true then 1 else mn g ((p + tn) % 2)))) (fun z => ∃ (G' : Nat → Nat → Int32) (M : Nat → Nat), z = (F, G', P, N) ∧ (∀ k, k ≠ 24 → G' k = G0 k) ∧ (∀ q, q < 2 * 2 ^ m → G' 24 q = nI (M q) ∧ M q ≤ M0 q) ∧ M p = M0 p ∧ (∀ q, q < 2 * 2 ^ m → M q < M0 q → ∃ d, CE m st cn (fun g w => if cnt = true then 1 else mn g w) tn p q d ∧ M q = M0 p + d) ∧ (∀ g, 1 ≤ g → g ≤ dif (bw m p) st → g &&& dif (bw m p) st = g → cn g ((p + tn) % 2) = true → M (2 * ((p / 2) ^^^ g) + (1 - p % 2)) ≤ M0 p + (if cnt = true then 1 else mn g ((p + tn) % 2)))) (fun k G hG => by
      obtain ⟨M, r⟩ := hG
      refine ⟨(F, G, P, N), ?_, G, M, rfl, r⟩
      show l_Se_settleAll_74 n E v1 v2 (b2i cnt) v4 v5 (nI p) (nI ((p + tn) % 2)) (nI (dif (bw m p) st)) (k + 1) (nI (dif (bw m p) st + 1)) F G P N = _
      rw [l_Se_settleAll_74, if_pos (nI_lt (by omega) (by omega))]) (fun k i G hi hG => by
      obtain ⟨M, r1, r2, r3, r4, r5⟩ := hG
      show ∃ G', l_Se_settleAll_74 n E v1 v2 (b2i cnt) v4 v5 (nI p) (nI ((p + tn) % 2)) (nI (dif (bw m p) st)) (k + 1) (nI (i + 1)) F G P N = l_Se_settleAll_74 n E v1 v2 (b2i cnt) v4 v5 (nI p) (nI ((p + tn) % 2)) (nI (dif (bw m p) st)) k (nI (i + 1 + 1)) F G' P N ∧ _
      have hg6 : i + 1 < 64 := by omega
      have hT' : TbW G m cn mn := fun a w a1 a2 a3 => by
        rw [r1 (19 + w) (by omega), r1 (22 + w) (by omega)]; exact hT a w a1 a2 a3
      rw [l_Se_settleAll_74, if_neg (nI_nlt (by omega) (by omega)), q_dif _ hg6 _ (by omega)]
      have hd0 : dif (i + 1) (dif (bw m p) st) = 0 ↔ (i + 1) &&& dif (bw m p) st = i + 1 := by
        constructor
        · intro h
          rw [q_sub]
          intro j hj
          have h9 : (dif (i + 1) (dif (bw m p) st)).testBit j = false := by rw [h, Nat.zero_testBit]
          rw [tb_dif hg6, hj, Bool.true_and] at h9
          simpa using h9
        · intro h
          rw [q_sub] at h
          apply Nat.eq_of_testBit_eq
          intro j
          rw [tb_dif hg6, Nat.zero_testBit]
          cases hj : (i + 1).testBit j
          · rfl
          · rw [h j hj]; rfl
      have hdl2 := dif_le (x := i + 1) (y := dif (bw m p) st)
      have skip : ∀ (e : l_Se_settleAll_74 n E v1 v2 (b2i cnt) v4 v5 (nI p) (nI ((p + tn) % 2)) (nI (dif (bw m p) st)) k (nI (i + 1) + 1) F G P N = l_Se_settleAll_74 n E v1 v2 (b2i cnt) v4 v5 (nI p) (nI ((p + tn) % 2)) (nI (dif (bw m p) st)) k (nI (i + 1 + 1)) F G P N), ¬ ((i + 1) &&& dif (bw m p) st = i + 1 ∧ cn (i + 1) ((p + tn) % 2) = true) → ∃ (M : Nat → Nat), (∀ k, k ≠ 24 → G k = G0 k) ∧ (∀ q, q < 2 * 2 ^ m → G 24 q = nI (M q) ∧ M q ≤ M0 q) ∧ M p = M0 p ∧ (∀ q, q < 2 * 2 ^ m → M q < M0 q → ∃ d, CE m st cn (fun g w => if cnt = true then 1 else mn g w) tn p q d ∧ M q = M0 p + d) ∧ (∀ g, 1 ≤ g → g ≤ i + 1 → g &&& dif (bw m p) st = g → cn g ((p + tn) % 2) = true → M (2 * ((p / 2) ^^^ g) + (1 - p % 2)) ≤ M0 p + (if cnt = true then 1 else mn g ((p + tn) % 2))) := by
        intro _ hno
        refine ⟨M, r1, r2, r3, r4, fun g g1 g2 g3 g4 => ?_⟩
        by_cases e : g = i + 1
        · subst e; exact absurd ⟨g3, g4⟩ hno
        · exact r5 g g1 (by omega) g3 g4
      by_cases hs : (i + 1) &&& dif (bw m p) st = i + 1
      · rw [hd0.mpr hs, if_pos (show nI 0 = 0 from rfl)]
        obtain ⟨b1, b2, b3⟩ := (bank_ok hp hm).mp hs
        rw [canBeC hT' hm (by omega) b1 (by omega)]
        cases hc : cn (i + 1) ((p + tn) % 2)
        · refine ⟨G, by rw [← nI_1 (i + 1)]; rfl, ?_⟩
          exact skip (by rw [nI_1]) (fun q => by rw [hc] at q; exact absurd q.2 (by decide))
        · have hx := q_x64 (show p / 2 < 64 by omega) hg6
          have hce : CE m st cn (fun g w => if cnt = true then 1 else mn g w) tn p (2 * ((p / 2) ^^^ (i + 1)) + (1 - p % 2)) (if cnt = true then 1 else mn (i + 1) ((p + tn) % 2)) := ⟨hp, i + 1, by omega, b1, b2, b3, hc, rfl, rfl⟩
          have hto := CE_q hce
          generalize hnx : 2 * ((p / 2) ^^^ (i + 1)) + (1 - p % 2) = nx at hce hto
          have hne : nx ≠ p := by omega
          have hcc := hcb (i + 1) ((p + tn) % 2)
          obtain ⟨m1, m2⟩ := r2 nx hto
          obtain ⟨m3, m4⟩ := r2 p hp
          have m5 := (hM nx hto).2
          refine ⟨upR G 24 nx (nI (min (M nx) (M0 p + (if cnt = true then 1 else mn (i + 1) ((p + tn) % 2))))), ?_, ud M nx (min (M nx) (M0 p + (if cnt = true then 1 else mn (i + 1) ((p + tn) % 2)))), fun kk hk => by rw [q_upN hk]; exact r1 kk hk, fun q hq => ?_, ?_, fun q hq hlt => ?_, fun g g1 g2 g3 g4 => ?_⟩
          · have i1 : ix (nI p) 128 := nI_in (by omega) (by omega)
            have i2 : ix (nI nx) 128 := nI_in (by omega) (by omega)
            show ((if b2i true = 0 then some (F, G, P, N) else (p_Se_placeBehind n (nI p) (nI (i + 1))).bind fun x16 => if ix (nI p) 128 then (if b2i cnt = 0 then (p_Go_minutesOf n E F G P N (nI (i + 1)) (nI ((p + tn) % 2))).bind fun x21 => some x21 else some 1 : Option (Int32)).bind fun x19 => if ix x16 128 then if ix x16 128 then some (F, (upR G 24 x16.toNatClampNeg ((jmin (G 24 x16.toNatClampNeg) ((G 24 (nI p).toNatClampNeg) + x19)))), P, N) else none else none else none)).bind _ = _
            rw [if_neg (show ¬ b2i true = 0 by decide), behindC (by omega) hg6, hnx, Option.bind_some, if_pos i1, minOfC hT' hm (by omega) b1 (by omega)]
            have ect : (if b2i cnt = 0 then (some (nI (mn (i + 1) ((p + tn) % 2)))).bind fun x21 => some x21 else some 1 : Option Int32) = some (nI (if cnt = true then 1 else mn (i + 1) ((p + tn) % 2))) := by
              cases cnt <;> rfl
            rw [ect, Option.bind_some, if_pos i2, if_pos i2, nI_clamp (by omega), nI_clamp (by omega), m1, m3, r3, nI_add, jmn (by omega) (by omega), ← nI_1 (i + 1)]
            rfl
          · by_cases e : q = nx
            · subst e
              rw [q_upV, ud_s]; exact ⟨rfl, by omega⟩
            · rw [q_upE (fun h => e h.2), ud_n e]; exact r2 q hq
          · rw [ud_n hne.symm]; exact r3
          · by_cases e : q = nx
            · subst e
              rw [ud_s] at hlt ⊢
              by_cases hl : M0 p + (if cnt = true then 1 else mn (i + 1) ((p + tn) % 2)) < M q
              · rw [Nat.min_eq_right (by omega)]
                exact ⟨_, hce, rfl⟩
              · rw [Nat.min_eq_left (by omega)] at hlt ⊢
                exact r4 q hq hlt
            · rw [ud_n e] at hlt ⊢
              exact r4 q hq hlt
          · by_cases e : 2 * ((p / 2) ^^^ g) + (1 - p % 2) = nx
            · rw [e, ud_s]
              by_cases e2 : g = i + 1
              · subst e2; omega
              · have := r5 g g1 (by omega) g3 g4
                rw [e] at this
                omega
            · rw [ud_n e]
              by_cases e2 : g = i + 1
              · subst e2; exact absurd hnx e
              · exact r5 g g1 (by omega) g3 g4
      · rw [if_neg (show ¬ nI (dif (i + 1) (dif (bw m p) st)) = 0 from fun q => hs (hd0.mp ((nI_eq (a := dif (i + 1) (dif (bw m p) st)) (b := 0) (by omega) (by omega)).mp q)))]
        refine ⟨G, by rw [← nI_1 (i + 1)]; rfl, ?_⟩
        exact skip (by rw [nI_1]) (fun q => hs q.1)) 0 G0 n (by omega) (by omega) ⟨M0, fun _ _ => rfl, fun q hq => ⟨(hM q hq).1, Nat.le_refl _⟩, rfl, fun q hq h => absurd h (by omega), fun g g1 g2 => by omega⟩
  obtain ⟨k1, k2, k3, k4, k5⟩ := h3
  refine ⟨G', M, by rw [show l_Se_settleAll_74 n E v1 v2 (b2i cnt) v4 v5 (nI p) (nI ((p + tn) % 2)) (nI (dif (bw m p) st)) n 1 F G0 P N = some z from h1, h2], k1, k2, k3, k4, fun q d hce => ?_⟩
  obtain ⟨_, g, g1, g2, g3, g4, g5, g6, g7⟩ := hce
  have hb := (bank_ok (st := st) hp hm).mpr ⟨g2, g3, g4⟩
  have := k5 g g1 (by rw [← hb]; exact Nat.and_le_right) hb g5
  rw [g6, g7]
  exact this
theorem leastUnC {n np : Nat} {M Z : Nat → Nat} {E : PE} {F G : Nat → Nat → Int32} {P : Nat → Nat → Option Nat} {N : Nat → Nat} (hn : 1000 ≤ n) (hnp : np ≤ 128) (hM : ∀ q, q < np → G 24 q = nI (M q) ∧ M q ≤ 1073741824 ∧ G 25 q = nI (Z q) ∧ Z q ≤ 1) :
    (p_Se_leastUnsettled n E F G P N (nI np) = some (-1) ∧ ∀ q, q < np → Z q = 1 ∨ M q = 1073741824) ∨ ∃ p, p < np ∧ p_Se_leastUnsettled n E F G P N (nI np) = some (nI p) ∧ Z p = 0 ∧ M p < 1073741824 ∧ ∀ q, q < np → Z q = 1 ∨ M p ≤ M q := by
  obtain ⟨z, h1, h2⟩ := q_lp (fun k i (u : Int32 × Int32) => l_Se_leastUnsettled_8 n E F G P N (nI np) k u.1 u.2 (nI i)) np (fun i u => (u.1 = -1 ∧ u.2 = 1073741824 ∧ ∀ q, q < i → Z q = 1 ∨ M q = 1073741824) ∨ ∃ p, p < np ∧ u.1 = nI p ∧ u.2 = nI (M p) ∧ Z p = 0 ∧ M p < 1073741824 ∧ ∀ q, q < i → Z q = 1 ∨ M p ≤ M q) (fun z => (z = -1 ∧ ∀ q, q < np → Z q = 1 ∨ M q = 1073741824) ∨ ∃ p, p < np ∧ z = nI p ∧ Z p = 0 ∧ M p < 1073741824 ∧ ∀ q, q < np → Z q = 1 ∨ M p ≤ M q) (fun k u hu => by
      obtain ⟨u1, u2⟩ := u
      dsimp only at hu
      refine ⟨u1, ?_, ?_⟩
      · show l_Se_leastUnsettled_8 n E F G P N (nI np) (k + 1) u1 u2 (nI np) = _
        rw [l_Se_leastUnsettled_8, if_pos (Int32.le_refl _)]
      · rcases hu with ⟨a1, a2, a3⟩ | ⟨p, a0, a1, a2, a3, a4, a5⟩
        · exact Or.inl ⟨a1, a3⟩
        · exact Or.inr ⟨p, a0, a1, a3, a4, a5⟩) (fun k i u hi hu => by
      obtain ⟨u1, u2⟩ := u
      dsimp only at hu
      obtain ⟨b1, b2, b3, b4⟩ := hM i hi
      have hx : ix (nI i) 128 := nI_in (by omega) (by omega)
      have e0 : l_Se_leastUnsettled_8 n E F G P N (nI np) (k + 1) u1 u2 (nI i) = ((if nI (Z i) = 0 then (if u2 ≤ nI (M i) then some (u1, u2) else some (nI i, nI (M i))) else some (u1, u2) : Option (Int32 × Int32))).bind fun (x3, x4) => l_Se_leastUnsettled_8 n E F G P N (nI np) k x3 x4 (nI (i + 1)) := by
        rw [l_Se_leastUnsettled_8, if_neg (nI_ge hi (by omega)), if_pos hx, if_pos hx, if_pos hx, nI_clamp (by omega), b1, b3, nI_1]
      show ∃ a' : Int32 × Int32, l_Se_leastUnsettled_8 n E F G P N (nI np) (k + 1) u1 u2 (nI i) = l_Se_leastUnsettled_8 n E F G P N (nI np) k a'.1 a'.2 (nI (i + 1)) ∧ _
      rw [e0]
      by_cases hz : Z i = 0
      · rw [hz, if_pos (show nI 0 = 0 from rfl)]
        rcases hu with ⟨a1, a2, a3⟩ | ⟨p, a0, a1, a2, a3, a4, a5⟩
        · by_cases hl : M i = 1073741824
          · rw [a2, hl, if_pos (show (1073741824 : Int32) ≤ nI 1073741824 by decide)]
            refine ⟨(u1, 1073741824), rfl, Or.inl ⟨a1, rfl, fun q hq => ?_⟩⟩
            by_cases e : q = i
            · rw [e]; exact Or.inr hl
            · exact a3 q (by omega)
          · rw [a2, if_neg (show ¬ (1073741824 : Int32) ≤ nI (M i) from nI_ge (b := 1073741824) (by omega) (by omega))]
            refine ⟨(nI i, nI (M i)), rfl, Or.inr ⟨i, hi, rfl, rfl, hz, by omega, fun q hq => ?_⟩⟩
            by_cases e : q = i
            · rw [e]; exact Or.inr (Nat.le_refl _)
            · rcases a3 q (by omega) with h | h
              · exact Or.inl h
              · exact Or.inr (by omega)
        · by_cases hl : M p ≤ M i
          · rw [a2, if_pos (nI_le hl (by omega))]
            refine ⟨(u1, nI (M p)), rfl, Or.inr ⟨p, a0, a1, rfl, a3, a4, fun q hq => ?_⟩⟩
            by_cases e : q = i
            · rw [e]; exact Or.inr hl
            · exact a5 q (by omega)
          · rw [a2, if_neg (nI_ge (by omega) (by omega))]
            refine ⟨(nI i, nI (M i)), rfl, Or.inr ⟨i, hi, rfl, rfl, hz, by omega, fun q hq => ?_⟩⟩
            by_cases e : q = i
            · rw [e]; exact Or.inr (Nat.le_refl _)
            · rcases a5 q (by omega) with h | h
              · exact Or.inl h
              · exact Or.inr (by omega)
      · rw [if_neg (show ¬ nI (Z i) = 0 from fun q => hz ((nI_eq (a := Z i) (b := 0) (by omega) (by omega)).mp q))]
        refine ⟨(u1, u2), rfl, ?_⟩
        rcases hu with ⟨a1, a2, a3⟩ | ⟨p, a0, a1, a2, a3, a4, a5⟩
        · refine Or.inl ⟨a1, a2, fun q hq => ?_⟩
          by_cases e : q = i
          · rw [e]; exact Or.inl (by omega)
          · exact a3 q (by omega)
        · refine Or.inr ⟨p, a0, a1, a2, a3, a4, fun q hq => ?_⟩
          by_cases e : q = i
          · rw [e]; exact Or.inl (by omega)
          · exact a5 q (by omega)) 0 (-1, 1073741824) n (by omega) (by omega) (Or.inl ⟨rfl, rfl, fun q hq => by omega⟩)
  have h1' : l_Se_leastUnsettled_8 n E F G P N (nI np) n (-1) 1073741824 0 = some z := h1
  unfold p_Se_leastUnsettled
  rw [h1']
  rcases h2 with ⟨rfl, h⟩ | ⟨p, a0, rfl, h⟩
  · exact Or.inl ⟨rfl, h⟩
  · exact Or.inr ⟨p, a0, rfl, h⟩
