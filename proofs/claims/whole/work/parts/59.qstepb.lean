/-! ===== steps: by, going, go, looked ===== -/
def btr (b : Option Nat) (x : Nat) : Bool := match b with
  | none => true
  | some y => decide (pop y < pop x)
def bs (rc : Nat → Bool) : Nat → Option Nat
  | 0 => none
  | i + 1 => cond (rc i && btr (bs rc i) i) (some i) (bs rc i)
def bs2 (rp : Nat → Bool) : Nat → Option Nat
  | 0 => none
  | p + 1 => cond (rp p && btr (bs2 rp p) (p / 2)) (some (p / 2)) (bs2 rp p)
theorem bs_2 {rc rp : Nat → Bool} : ∀ i, (∀ j, j < i → rc j = (rp (2 * j) || rp (2 * j + 1))) → bs2 rp (2 * i) = bs rc i
  | 0, _ => rfl
  | i + 1, h => by
    have ih := bs_2 i (fun j hj => h j (by omega))
    have hi := h i (by omega)
    rw [show 2 * (i + 1) = 2 * i + 1 + 1 by omega]
    simp only [bs2, bs, ih, show (2 * i + 1) / 2 = i by omega, show 2 * i / 2 = i by omega, hi]
    have self : btr (some i) i = false := by simp [btr]
    cases rp (2 * i) <;> cases rp (2 * i + 1) <;> cases hb : btr (bs rc i) i <;> simp [hb, self]
theorem bs_top {rc : Nat → Bool} {c : Nat} : ∀ i, c ≤ i → (∀ j, c ≤ j → rc j = false) → bs rc i = bs rc c
  | 0, h, _ => by rw [show c = 0 by omega]
  | i + 1, h, hr => by
    by_cases e : c = i + 1
    · rw [e]
    · simp only [bs, hr i (by omega), Bool.false_and, cond_false]
      exact bs_top i (by omega) hr
theorem bs_cg {rc rd : Nat → Bool} : ∀ i, (∀ j, j < i → rc j = rd j) → bs rc i = bs rd i
  | 0, _ => rfl
  | i + 1, h => by
    simp only [bs, bs_cg i (fun j hj => h j (by omega)), h i (by omega)]
theorem bs_lt {rc : Nat → Bool} : ∀ i y, bs rc i = some y → y < i
  | 0, y, h => absurd h (by simp [bs])
  | i + 1, y, h => by
    simp only [bs] at h
    cases hb : (rc i && btr (bs rc i) i)
    · rw [hb, cond_false] at h
      have := bs_lt i y h; omega
    · rw [hb, cond_true] at h
      cases h; omega
theorem bs2_lt {rp : Nat → Bool} : ∀ i y, bs2 rp i = some y → y ≤ i / 2 ∧ y < i
  | 0, y, h => absurd h (by simp [bs2])
  | i + 1, y, h => by
    simp only [bs2] at h
    cases hb : (rp i && btr (bs2 rp i) (i / 2))
    · rw [hb, cond_false] at h
      have := bs2_lt i y h; omega
    · rw [hb, cond_true] at h
      cases h; omega
theorem bs_some {rc : Nat → Bool} {j : Nat} (hj : rc j = true) : ∀ i, j < i → ∃ x, bs rc i = some x ∧ x < i
  | 0, h => by omega
  | i + 1, h => by
    simp only [bs]
    cases hb : (rc i && btr (bs rc i) i)
    · rw [cond_false]
      by_cases e : j = i
      · subst e
        cases hn : bs rc j with
        | none => rw [hn, hj] at hb; exact absurd hb (by simp [btr])
        | some y =>
          have := bs_lt j y hn
          exact ⟨y, rfl, by omega⟩
      · obtain ⟨x, h1, h2⟩ := bs_some hj i (by omega)
        exact ⟨x, h1, by omega⟩
    · exact ⟨i, rfl, by omega⟩
def bsI (b : Option Nat) : Int32 := match b with
  | none => (-1)
  | some x => nI x
def bsP (b : Option Nat) : Int32 := match b with
  | none => (-1)
  | some x => nI (pop x)
theorem byM43 {n mm : Nat} {v2 : Int32} {D : Nat → Nat} {I : Nat → Int32} {R : Nat → Nat → Int32} (hn : 1000 ≤ n) (hmm : mm ≤ 999) (hD : ∀ k, k < 128 → R 14 k = nI (D k) ∧ D k ≤ 1000000) : l_Md_by_43 n (nI mm) v2 I R n (-1) 0 = some (bsI (bs (fun j => decide (D j ≤ mm) || decide (D (64 + j) ≤ mm)) 64)) := by
  have e := q_lpf (fun k i (v : Int32) => l_Md_by_43 n (nI mm) v2 I R k v (nI i)) 64 (fun i => bsI (bs (fun j => decide (D j ≤ mm) || decide (D (64 + j) ≤ mm)) i)) (bsI (bs (fun j => decide (D j ≤ mm) || decide (D (64 + j) ≤ mm)) 64)) (fun k => by
    show l_Md_by_43 n (nI mm) v2 I R (k + 1) _ (nI 64) = _
    rw [l_Md_by_43, if_pos (show (64 : Int32) ≤ nI 64 by decide)]) (fun k i hi => by
    show l_Md_by_43 n (nI mm) v2 I R (k + 1) (bsI (bs _ i)) (nI i) = l_Md_by_43 n (nI mm) v2 I R k (bsI (bs _ (i + 1))) (nI (i + 1))
    have i1 : ix (nI i) 128 := nI_in (by omega) (by omega)
    have i2 : ix (nI (64 + i)) 128 := nI_in (by omega) (by omega)
    obtain ⟨d1, d2⟩ := hD i (by omega)
    obtain ⟨d3, d4⟩ := hD (64 + i) (by omega)
    rw [l_Md_by_43, if_neg (show ¬ (64 : Int32) ≤ nI i from nI_ge (b := 64) hi (by omega)), show (64 : Int32) + nI i = nI (64 + i) from nI_add 64 i, if_pos i1, if_pos i2]
    simp only [nI_clamp (show i < 2 ^ 31 by omega), nI_clamp (show 64 + i < 2 ^ 31 by omega)]
    rw [d1, d3, nI_1]
    have ec : (if nI (D i) ≤ nI mm then some 1 else (if nI mm < nI (D (64 + i)) then some 0 else some 1) : Option Int32) = some (b2i (decide (D i ≤ mm) || decide (D (64 + i) ≤ mm))) := by
      by_cases h1 : D i ≤ mm
      · rw [if_pos (nI_le h1 (by omega)), decide_eq_true h1]; rfl
      · rw [if_neg (nI_ge (by omega) (by omega)), decide_eq_false h1]
        by_cases h2 : D (64 + i) ≤ mm
        · rw [if_neg (nI_nlt h2 (by omega)), decide_eq_true h2]; rfl
        · rw [if_pos (nI_lt (by omega) (by omega)), decide_eq_false h2]; rfl
    rw [ec, Option.bind_some, q_popM n i (by omega) (by omega)]
    simp only [bs]
    generalize (decide (D i ≤ mm) || decide (D (64 + i) ≤ mm)) = rci
    cases hb : bs (fun j => decide (D j ≤ mm) || decide (D (64 + j) ≤ mm)) i with
    | none => cases rci <;> rfl
    | some y =>
      have hy := bs_lt i y hb
      have hpy := q_pop_le y (by omega)
      have hpi := q_pop_le i (by omega)
      cases rci
      · rfl
      · show ((if b2i true = 0 then some (nI y) else (if nI y = (-1) then some (nI i) else (some (nI (pop i))).bind fun x20 => (p_Md_count1 n (nI y)).bind fun x22 => (if x20 ≤ x22 then some (nI y) else some (nI i))) : Option Int32)).bind _ = _
        rw [if_neg (show ¬ b2i true = 0 by decide), if_neg (show ¬ nI y = (-1) from fun e => nI_pos (n := y) (by omega) (by rw [e]; decide)), Option.bind_some, q_popM n y (by omega) (by omega), Option.bind_some]
        by_cases hlt : pop y < pop i
        · rw [if_neg (nI_ge hlt (by omega)), show (true && btr (some y) i) = true by simp [btr, hlt]]; rfl
        · rw [if_pos (nI_le (by omega) (by omega)), show (true && btr (some y) i) = false by simp [btr, hlt]]; rfl) 0 n (by omega) (by omega)
  exact e
theorem mostC {n m mm : Nat} {M : Nat → Nat} {E : PE} {F G : Nat → Nat → Int32} {P : Nat → Nat → Option Nat} {N : Nat → Nat} (hn : 1000 ≤ n) (hm : m ≤ 6) (hmm : mm ≤ 999) (hF : F 3 2 = nI (2 ^ m - 1)) (hM : ∀ q, q < 2 * 2 ^ m → G 24 q = nI (M q) ∧ M q ≤ 1073741824) : p_Se_mostOver n E F G P N (nI mm) = some (nI ((bs2 (fun p => decide (M p ≤ mm)) (2 * 2 ^ m)).getD 0)) := by
  have h64 := q_p2 m (by omega)
  have e := q_lpf (fun k i (v : Int32 × Int32) => l_Se_mostOver_7 n E F G P N (nI mm) k v.1 v.2 (nI i)) (2 * 2 ^ m) (fun i => (nI ((bs2 (fun p => decide (M p ≤ mm)) i).getD 0), bsP (bs2 (fun p => decide (M p ≤ mm)) i))) (nI ((bs2 (fun p => decide (M p ≤ mm)) (2 * 2 ^ m)).getD 0)) (fun k => by
    show l_Se_mostOver_7 n E F G P N (nI mm) (k + 1) _ _ (nI (2 * 2 ^ m)) = _
    rw [l_Se_mostOver_7]
    unfold p_Go_everybody
    rw [hF, Option.bind_some, nI_1, show 2 ^ m - 1 + 1 = 2 ^ m by omega, show (2 : Int32) * nI (2 ^ m) = nI (2 * 2 ^ m) from pk_mul 2 (2 ^ m), if_pos (Int32.le_refl _)]) (fun k i hi => by
    show l_Se_mostOver_7 n E F G P N (nI mm) (k + 1) (nI ((bs2 (fun p => decide (M p ≤ mm)) i).getD 0)) (bsP (bs2 (fun p => decide (M p ≤ mm)) i)) (nI i) = l_Se_mostOver_7 n E F G P N (nI mm) k (nI ((bs2 (fun p => decide (M p ≤ mm)) (i + 1)).getD 0)) (bsP (bs2 (fun p => decide (M p ≤ mm)) (i + 1))) (nI (i + 1))
    have hx : ix (nI i) 128 := nI_in (by omega) (by omega)
    obtain ⟨d1, d2⟩ := hM i hi
    have hpi := q_pop_le (i / 2) (by omega)
    rw [l_Se_mostOver_7]
    unfold p_Go_everybody
    rw [hF, Option.bind_some, nI_1, show 2 ^ m - 1 + 1 = 2 ^ m by omega, show (2 : Int32) * nI (2 ^ m) = nI (2 * 2 ^ m) from pk_mul 2 (2 ^ m), if_neg (nI_ge hi (by omega)), if_neg (show ¬ (128 : Int32) ≤ nI i from nI_ge (b := 128) (by omega) (by omega)), q_ph i (by omega), q_popC n (i / 2) (by omega), Option.bind_some, if_pos hx, nI_clamp (by omega), d1, nI_1]
    simp only [bs2]
    by_cases hc : M i ≤ mm
    · rw [if_neg (nI_nlt hc (by omega)), decide_eq_true hc]
      cases hb : bs2 (fun p => decide (M p ≤ mm)) i with
      | none =>
        show ((if nI (pop (i / 2)) ≤ (-1) then some (nI 0, -1) else some (nI (i / 2), nI (pop (i / 2))) : Option (Int32 × Int32))).bind _ = _
        rw [if_neg (show ¬ nI (pop (i / 2)) ≤ (-1) from fun q => absurd (Int32.lt_of_le_of_lt q (show (-1 : Int32) < 0 by decide)) (nI_pos (by omega)))]
        rfl
      | some y =>
        have hy := bs2_lt i y hb
        have hy64 : y < 64 := by omega
        have hpy := q_pop_le y hy64
        show ((if nI (pop (i / 2)) ≤ nI (pop y) then some (nI y, nI (pop y)) else some (nI (i / 2), nI (pop (i / 2))) : Option (Int32 × Int32))).bind _ = _
        by_cases hlt : pop y < pop (i / 2)
        · rw [if_neg (nI_ge hlt (by omega)), show (true && btr (some y) (i / 2)) = true by simp [btr, hlt]]; rfl
        · rw [if_pos (nI_le (by omega) (by omega)), show (true && btr (some y) (i / 2)) = false by simp [btr, hlt]]; rfl
    · rw [if_pos (nI_lt (by omega) (by omega)), decide_eq_false hc]
      rfl) 0 n (by omega) (by omega)
  unfold p_Se_mostOver
  rw [show l_Se_mostOver_7 n E F G P N (nI mm) n 0 (-1) 0 = some (nI ((bs2 (fun p => decide (M p ≤ mm)) (2 * 2 ^ m)).getD 0)) from e]
  rfl
/-- a number from 0 to c, or not -/
theorem inR {n c : Nat} {x C : Int32} (hc : c < 2 ^ 30) (hC : C = nI c) : (x < 0 ∧ p_Md_in n x 0 C = some 0) ∨ (¬ x < 0 ∧ C < x ∧ ¬ x ≤ C ∧ p_Md_in n x 0 C = some 0) ∨ ∃ j, j ≤ c ∧ x = nI j ∧ p_Md_in n x 0 C = some 1 ∧ ¬ x < 0 ∧ x ≤ C ∧ ¬ C < x := by
  subst hC
  rcases pk_ix x (n := c + 1) (by omega) with h | h | ⟨j, hj, rfl⟩
  · exact Or.inl ⟨h, q_in0 (fun q => absurd h (Int32.not_lt.mpr q.1))⟩
  · have h1 : nI c < x := Int32.lt_of_lt_of_le (nI_lt (by omega) (by omega)) h
    have h2 : ¬ x < 0 := fun q => absurd (Int32.lt_trans h1 q) (nI_pos (by omega))
    have h3 : ¬ x ≤ nI c := Int32.not_le.mpr h1
    exact Or.inr (Or.inl ⟨h2, h1, h3, q_in0 (fun q => h3 q.2)⟩)
  · have h1 : ¬ nI j < 0 := nI_pos (by omega)
    have h2 : nI j ≤ nI c := nI_le (by omega) (by omega)
    exact Or.inr (Or.inr ⟨j, by omega, rfl, q_in1 (Int32.not_lt.mp h1) h2, h1, h2, Int32.not_lt.mpr h2⟩)
theorem st_by {n : Nat} {v1 v2 : Int32} {E : PE} {F G : Nat → Nat → Int32} {P : Nat → Nat → Option Nat} {N : Nat → Nat} {I : Nat → Int32} {R : Nat → Nat → Int32} (hn : 300000000 ≤ n) (h : RL E F G P N I R) : OKi E (p_LB_by n E v1 v2 F G P N) (p_Md_by n v1 v2 I R) := by
  have h' := h
  obtain ⟨m, k, r, b, t, w, a, L, be, he, oi, h⟩ := h
  obtain ⟨hm, h0, hB, hL, hTl⟩ := SR_go h.1
  have h64 := q_p2 m (by omega)
  unfold p_LB_by p_Md_by
  rcases inR (n := n) (x := v2) (c := 1) (C := 1) (by omega) rfl with ⟨i1, i2⟩ | ⟨i1, i2, i3, i4⟩ | ⟨y, hy, rfl, i2, i3, i4, i5⟩
  · rw [if_pos i1, i2]; exact ⟨-1, F, G, P, N, I, R, rfl, rfl, h'⟩
  · rw [if_neg i1, if_neg i3, i4]; exact ⟨-1, F, G, P, N, I, R, rfl, rfl, h'⟩
  · rw [if_neg i3, if_pos i4, i2, Option.bind_some, if_neg (show ¬ (1 : Int32) = 0 by decide)]
    rcases inR (n := n) (x := v1) (c := 999) (C := 999) (by omega) rfl with ⟨j1, j2⟩ | ⟨j1, j2, j3, j4⟩ | ⟨mm, hmm, rfl, j2, j3, j4, j5⟩
    · rw [if_pos j1, j2]; exact ⟨-2, F, G, P, N, I, R, rfl, rfl, h'⟩
    · rw [if_neg j1, if_neg j3, j4]; exact ⟨-2, F, G, P, N, I, R, rfl, rfl, h'⟩
    · rw [if_neg j3, if_pos j4, j2, Option.bind_some, if_neg (show ¬ (1 : Int32) = 0 by decide)]
      obtain ⟨F1, G1, P1, N1, a1, a2, a3, a4, a5, a6, a7⟩ := refreshC (n := n) h (by omega)
      obtain ⟨⟨n1, n2, n3, n4, n5, n6, n7⟩, -, -, -, -, -, ⟨q8, f7⟩, ⟨q9, f6⟩, -, -⟩ := h.1.1
      have ha6 : a < 64 := by omega
      have hpk := pk2_aw ha6 n6
      have hp0 : 2 * a + w < 2 * 2 ^ m := by omega
      have hmn : ∀ g w, mnS (R 1) m L g w ≤ 1050 := fun g w => mnS_le hB hL.1 hL.2.1
      obtain ⟨I1, R1, c1, c2, c3⟩ := costsM (n := n) (I := I) (by omega) hL hTl rfl hm h0 hB (byI_none (m := m))
      have es : R1 1 = R 1 := c2.2 1 (by decide) (by decide) (by decide) (by decide) (by decide) (by decide)
      obtain ⟨D, S, R2, d1, d2, d3, d4, d5, d6⟩ := fromM (I := I1) (k0 := a + 64 * w) hn hm (by omega) (by rw [hpk]; exact hp0) (by rw [es]; exact h0) c3 hmn
      rw [hpk] at d4 d5
      obtain ⟨G2, M, b1, b2, b3, b4⟩ := measFromC (n := n) (E := E) (F := F1) (G0 := G1) (P := P1) (N := N1) (by omega) hm hp0 a4.2.1 (Tb_W a5) hmn
      have hMD : ∀ p, p < 2 * 2 ^ m → (M p ≤ mm ↔ D (kp p) ≤ mm) := by
        intro p hp
        have hk := kp_lt (show p < 128 by omega)
        have ep : pk2 (kp p) = p := pk_kp (by omega)
        constructor
        · intro hle
          obtain ⟨-, t, i, t1, t2, t3⟩ := b4.1 p hp (by omega)
          have t2' : t = 2 * a + w := t2
          rw [t2'] at t3
          have := d5 i (kp p) _ hk (by rw [ep]; exact t3)
          omega
        · intro hle
          rcases (d4 (kp p) hk).1 with e | ⟨i, e⟩
          · omega
          · rw [ep] at e
            have := b4.2 i _ p _ hp0 rfl e
            omega
      have hbig : ∀ j, 2 ^ m ≤ j → j < 64 → ¬ D j ≤ mm ∧ ¬ D (64 + j) ≤ mm := by
        intro j hj1 hj2
        constructor
        · intro hle
          rcases (d4 j (by omega)).1 with e | ⟨i, e⟩
          · omega
          · have := wk_q i _ _ _ hp0 e
            unfold pk2 at this; omega
        · intro hle
          rcases (d4 (64 + j) (by omega)).1 with e | ⟨i, e⟩
          · omega
          · have := wk_q i _ _ _ hp0 e
            unfold pk2 at this; omega
      have hrc : ∀ j, j < 2 ^ m → (decide (D j ≤ mm) || decide (D (64 + j) ≤ mm)) = (decide (M (2 * j) ≤ mm) || decide (M (2 * j + 1) ≤ mm)) := by
        intro j hj
        have e1 : kp (2 * j) = j := by unfold kp; omega
        have e2 : kp (2 * j + 1) = 64 + j := by unfold kp; omega
        have g1 := hMD (2 * j) (by omega)
        have g2 := hMD (2 * j + 1) (by omega)
        rw [e1] at g1
        rw [e2] at g2
        rw [decide_eq_decide.mpr g1, decide_eq_decide.mpr g2]
      have hbs : bs (fun j => decide (D j ≤ mm) || decide (D (64 + j) ≤ mm)) 64 = bs2 (fun p => decide (M p ≤ mm)) (2 * 2 ^ m) := by
        rw [bs_cg (rd := fun j => if j < 2 ^ m then (decide (M (2 * j) ≤ mm) || decide (M (2 * j + 1) ≤ mm)) else false) 64 (fun j hj => by
          show (decide (D j ≤ mm) || decide (D (64 + j) ≤ mm)) = if j < 2 ^ m then _ else false
          by_cases hjm : j < 2 ^ m
          · rw [if_pos hjm, hrc j hjm]
          · have := hbig j (by omega) hj
            rw [if_neg hjm, decide_eq_false this.1, decide_eq_false this.2]; rfl), bs_top (c := 2 ^ m) 64 (by omega) (fun j hj => if_neg (by omega)), bs_2 (rp := fun p => decide (M p ≤ mm)) (2 ^ m) (fun j hj => if_pos hj)]
      have hstart : ∃ x, bs (fun j => decide (D j ≤ mm) || decide (D (64 + j) ≤ mm)) 64 = some x ∧ x < 64 := by
        refine bs_some (j := a) ?_ 64 (by omega)
        have hd0 : D (a + 64 * w) ≤ 0 := d5 0 (a + 64 * w) 0 (by omega) (by rw [hpk]; exact ⟨rfl, rfl⟩)
        rcases (by omega : w = 0 ∨ w = 1) with rfl | rfl
        · rw [show a + 64 * 0 = a by omega] at hd0
          rw [decide_eq_true (show D a ≤ mm by omega)]; rfl
        · rw [show a + 64 * 1 = 64 + a by omega] at hd0
          rw [decide_eq_true (show D (64 + a) ≤ mm by omega), Bool.or_true]
      obtain ⟨x, hx1, hx2⟩ := hstart
      have hlw : Lw I I1 R R2 := c2.trans ⟨fun _ _ _ => rfl, fun q _ _ _ q14 q15 _ => d2 q q14 q15⟩
      have hcl : p_Se_mostOver n E F1 G2 P1 N1 (nI mm) = some (nI x) := by
        rw [mostC (by omega) hm hmm a4.2.1 b3, ← hbs, hx1]; rfl
      have hml : l_Md_by_43 n (nI mm) (nI y) I1 R2 n (-1) 0 = some (nI x) := by
        rw [byM43 (by omega) hmm (fun k hk => ⟨(d3 k hk).1, (d3 k hk).2.2.1⟩), hx1]; rfl
      refine ⟨if nI y = 0 then nI (pop x) else nI x, F1, G2, P1, N1, I1, R2, ?_, ?_, (RLp_Lw (RLp_G a2 (fun k _ k24 k25 => b2 k k24 k25)) hlw).rl⟩
      · rw [a1, Option.bind_some]
        dsimp only
        rw [placeC (by rw [a3]; exact f6) (by rw [a3]; exact f7) ha6 n6, Option.bind_some, b1, Option.bind_some]
        dsimp only
        rw [hcl, Option.bind_some, q_popC n x hx2]
        by_cases hy0 : nI y = 0
        · rw [if_pos hy0, if_pos hy0]; rfl
        · rw [if_neg hy0, if_neg hy0]; rfl
      · rw [c1, Option.bind_some]
        dsimp only
        rw [nowM (by rw [es]; exact q9) (by rw [es]; exact q8), Option.bind_some, d1, Option.bind_some]
        dsimp only
        rw [hml, Option.bind_some, q_popM n x (by omega) hx2]
        by_cases hy0 : nI y = 0
        · rw [if_pos hy0, if_pos hy0]; rfl
        · rw [if_neg hy0, if_neg hy0]; rfl
theorem st_going {n : Nat} {v1 v2 v3 : Int32} {E : PE} {F G : Nat → Nat → Int32} {P : Nat → Nat → Option Nat} {N : Nat → Nat} {I : Nat → Int32} {R : Nat → Nat → Int32} (hn : 300000000 ≤ n) (h : RL E F G P N I R) : OKi E (p_LB_going n E v1 v2 v3 F G P N) (p_Md_going n v1 v2 v3 I R) := by
  have h' := h
  obtain ⟨m, k, r, b, t, w, a, L, be, he, oi, h⟩ := h
  obtain ⟨hm, h0, hB, hL, hTl⟩ := SR_go h.1
  have h64 := q_p2 m (by omega)
  have f5 : F 1 5 = nI m := h.1.1.2.1.2
  unfold p_LB_going p_Md_going
  rcases inR (n := n) (x := v2) (c := 1) (C := 1) (by omega) rfl with ⟨i1, i2⟩ | ⟨i1, i2, i3, i4⟩ | ⟨y, hy, rfl, i2, i3, i4, i5⟩
  · rw [if_pos i1, i2]; exact ⟨-1, F, G, P, N, I, R, rfl, rfl, h'⟩
  · rw [if_neg i1, if_pos i2, i4]; exact ⟨-1, F, G, P, N, I, R, rfl, rfl, h'⟩
  · rw [if_neg i3, if_neg i5, i2, Option.bind_some, if_neg (show ¬ (1 : Int32) = 0 by decide)]
    rcases inR (n := n) (x := v3) (c := 1) (C := 1) (by omega) rfl with ⟨j1, j2⟩ | ⟨j1, j2, j3, j4⟩ | ⟨x, hx, rfl, j2, j3, j4, j5⟩
    · rw [if_pos j1, j2]; exact ⟨-1, F, G, P, N, I, R, rfl, rfl, h'⟩
    · rw [if_neg j1, if_neg j3, j4]; exact ⟨-1, F, G, P, N, I, R, rfl, rfl, h'⟩
    · rw [if_neg j3, if_pos j4, j2, Option.bind_some, if_neg (show ¬ (1 : Int32) = 0 by decide)]
      by_cases hz : v1 = 0
      · rw [if_pos hz, isS_1 hm h0 ⟨0, by omega, hz⟩, Option.bind_some, if_neg (show ¬ (1 : Int32) = 0 by decide), if_pos hz]
        exact ⟨-2, F, G, P, N, I, R, rfl, rfl, h'⟩
      · rw [if_neg hz]
        by_cases hS : isS m v1
        · rw [isS_c1 hm f5 hS, isS_1 hm h0 hS]
          obtain ⟨g, hg, rfl⟩ := hS
          have hg1 : 1 ≤ g := by
            apply Classical.byContradiction
            intro hc
            exact hz (by rw [show g = 0 by omega]; rfl)
          obtain ⟨F1, G1, P1, N1, a1, a2, a3, a4, a5, a6, a7⟩ := refreshC (n := n) h (by omega)
          rw [Option.bind_some, Option.bind_some, if_neg (show ¬ (1 : Int32) = 0 by decide), if_neg (show ¬ (1 : Int32) = 0 by decide), if_neg hz, a1, Option.bind_some]
          dsimp only
          rw [minOfC (Tb_W a5) hm hg1 hg hy, canBeC (Tb_W a5) hm hg1 hg hy]
          obtain ⟨I1, R1, c1, c2⟩ := canM (n := n) (w := y) (I := I) (by omega) hL hTl rfl hm h0 hB hg
          obtain ⟨I2, R2, d1, d2⟩ := minutesM (n := n) (w := y) (I := I) (by omega) hL rfl hm h0 hB hg hy
          rw [c1, d1]
          by_cases hx1 : nI x = 1
          · rw [if_pos hx1, if_pos hx1]
            exact ⟨_, F1, G1, P1, N1, I2, R2, rfl, rfl, (RLp_Lw a2 d2.w).rl⟩
          · rw [if_neg hx1, if_neg hx1]
            refine ⟨b2i (cnS (R 1) m L be he g y), F1, G1, P1, N1, I1, R1, ?_, ?_, (RLp_Lw a2 c2.w).rl⟩
            · cases cnS (R 1) m L be he g y <;> rfl
            · cases cnS (R 1) m L be he g y <;> rfl
        · rw [isS_c0 hm f5 hS, isS_0 hm h0 hS]
          exact ⟨-2, F, G, P, N, I, R, rfl, rfl, h'⟩
