/-! ===== the model's ways ===== -/
def cO (m st : Nat) (cn : Nat → Nat → Bool) (mn : Nat → Nat → Nat) (g w : Nat) : Int32 := if 1 ≤ g ∧ g < 2 ^ m ∧ cn g w = true ∧ g &&& st = 0 then nI (mn g w) else (-1)
def cosB {β : Type} (n : Nat) (v1 g w : Int32) (I : Nat → Int32) (R : Nat → Nat → Int32) (f : Int32 → (Nat → Int32) → (Nat → Nat → Int32) → Option β) : Option β := (p_Md_isSet n g I R).bind fun x2 => (if x2 = 0 then some (0, I, R) else (if g ≤ 0 then some (0, I, R) else (if v1 = (-1) then (p_Md_canGo n g w I R).bind fun (x10, I8, R9) => (if x10 = 0 then some (0, I8, R9) else some (1, I8, R9)) else (if ((g >>> (v1 &&& 31)) &&& 1) = 0 then (p_Md_canGo n g w I R).bind fun (x14, I12, R13) => (if x14 = 0 then some (0, I12, R13) else some (1, I12, R13)) else some (0, I, R)))) : Option (Int32 × (Nat → Int32) × (Nat → Nat → Int32))).bind fun (x4, I5, R6) => (if x4 = 0 then some ((-1), I5, R6) else (p_Md_minutesOf n g w I5 R6).bind fun (x22, I20, R21) => some (x22, I20, R21) : Option (Int32 × (Nat → Int32) × (Nat → Nat → Int32))).bind fun (x16, I17, R18) => f x16 I17 R18
theorem cosB_eq {n k : Nat} {v1 v2 : Int32} {I : Nat → Int32} {R : Nat → Nat → Int32} : l_Md_looksForCosts_2 n v1 (k + 1) v2 I R = (if 128 ≤ v2 then some (I, R) else cosB n v1 (v2 - v2 / 64 * 64) (v2 / 64) I R (fun x16 I17 R18 => if ix v2 128 then l_Md_looksForCosts_2 n v1 k (v2 + 1) I17 (upR R18 13 v2.toNatClampNeg x16) else none)) := rfl
/-- who stays: none, or one -/
def byI (m : Nat) (v : Int32) (st : Nat) : Prop := (v = (-1) ∧ st = 0) ∨ ∃ i, i < m ∧ v = nI i ∧ st = 2 ^ i
theorem q_and2 {g i : Nat} : (g &&& 2 ^ i = 0) ↔ bt g i = false := by
  rw [q_dj]
  constructor
  · intro h
    cases hb : bt g i
    · rfl
    · have := h i hb
      rw [Nat.testBit_two_pow_self] at this
      exact absurd this (by decide)
  · intro h j hj
    rw [Nat.testBit_two_pow]
    by_cases e : i = j
    · subst e
      have h2 : g.testBit i = false := h
      rw [h2] at hj; exact absurd hj (by decide)
    · exact decide_eq_false e
def cosA (n : Nat) (v1 g w : Int32) (I : Nat → Int32) (R : Nat → Nat → Int32) : Option (Int32 × (Nat → Int32) × (Nat → Nat → Int32)) := (if v1 = (-1) then (p_Md_canGo n g w I R).bind fun (x10, I8, R9) => (if x10 = 0 then some (0, I8, R9) else some (1, I8, R9)) else (if ((g >>> (v1 &&& 31)) &&& 1) = 0 then (p_Md_canGo n g w I R).bind fun (x14, I12, R13) => (if x14 = 0 then some (0, I12, R13) else some (1, I12, R13)) else some (0, I, R)))
theorem cosA_ok {n m st g w be he oi : Nat} {v1 : Int32} {s : Nat → Int32} {L : List Cls} {I : Nat → Int32} {R : Nat → Nat → Int32} (hn : 1000 ≤ n) (hL : NgM s L) (hT : tlM s be he oi) (hs : R 1 = s) (hm : m ≤ 6) (h0 : s 0 = nI m) (hV : VB s m) (hg : g < 2 ^ m) (hst : byI m v1 st) :
    ∃ I' R', cosA n v1 (nI g) (nI w) I R = some (b2i (cnS s m L be he g w && decide (g &&& st = 0)), I', R') ∧ Lk I I' R R' := by
  have hg6 := isS_lt hm hg
  obtain ⟨I1, R1, c1, c2⟩ := canM (w := w) (I := I) hn hL hT hs hm h0 hV hg
  unfold cosA
  rcases hst with ⟨rfl, rfl⟩ | ⟨i, hi, rfl, rfl⟩
  · refine ⟨I1, R1, ?_, c2⟩
    rw [if_pos rfl, c1, Nat.and_zero]
    cases cnS s m L be he g w <;> rfl
  · have hne : ¬ nI i = (-1) := fun e => nI_pos (n := i) (by omega) (by rw [e]; decide)
    rw [if_neg hne]
    cases hb : bt g i
    · refine ⟨I1, R1, ?_, c2⟩
      rw [if_pos ((q_bit0 g hg6 i (by omega)).mpr hb), c1, decide_eq_true (q_and2.mpr hb)]
      cases cnS s m L be he g w <;> rfl
    · refine ⟨I, R, ?_, Lk.rfl' I R⟩
      rw [if_neg (fun q => by rw [(q_bit0 g hg6 i (by omega)).mp q] at hb; exact absurd hb (by decide)), decide_eq_false (fun q => by rw [q_and2.mp q] at hb; exact absurd hb (by decide)), Bool.and_false]
      rfl
theorem cosB_ok {β : Type} {n m st g w be he oi : Nat} {v1 : Int32} {s : Nat → Int32} {L : List Cls} {I : Nat → Int32} {R : Nat → Nat → Int32} {f : Int32 → (Nat → Int32) → (Nat → Nat → Int32) → Option β} (hn : 1000 ≤ n) (hL : NgM s L) (hT : tlM s be he oi) (hs : R 1 = s) (hm : m ≤ 6) (h0 : s 0 = nI m) (hV : VB s m) (hg : g < 64) (hw : w ≤ 1) (hst : byI m v1 st) :
    ∃ I' R', cosB n v1 (nI g) (nI w) I R f = f (cO m st (cnS s m L be he) (mnS s m L) g w) I' R' ∧ Lk I I' R R' := by
  have h64 := q_p2 m (by omega)
  have hR0 : R 1 0 = nI m := by rw [hs, h0]
  unfold cosB
  by_cases hgm : g < 2 ^ m
  · rw [isS_1 hm hR0 ⟨g, hgm, rfl⟩]
    by_cases hg0 : g = 0
    · subst hg0
      refine ⟨I, R, ?_, Lk.rfl' I R⟩
      have e : cO m st (cnS s m L be he) (mnS s m L) 0 w = -1 := if_neg (fun q => absurd q.1 (by omega))
      rw [e]
      rfl
    · obtain ⟨I1, R1, c1, c2⟩ := cosA_ok (w := w) (I := I) hn hL hT hs hm h0 hV hgm hst
      have es : R1 1 = s := by rw [c2.2 1 (by decide) (by decide), hs]
      obtain ⟨I2, R2, d1, d2⟩ := minutesM (w := w) (I := I1) hn hL es hm h0 hV hgm hw
      show ∃ I' R', ((if (1 : Int32) = 0 then some (0, I, R) else (if nI g ≤ 0 then some (0, I, R) else cosA n v1 (nI g) (nI w) I R))).bind _ = _ ∧ _
      rw [if_neg (by decide), if_neg (nI_nle (by omega) (by omega)), c1]
      show ∃ I' R', ((if b2i (cnS s m L be he g w && decide (g &&& st = 0)) = 0 then some ((-1), I1, R1) else (p_Md_minutesOf n (nI g) (nI w) I1 R1).bind fun (x22, I20, R21) => some (x22, I20, R21) : Option (Int32 × (Nat → Int32) × (Nat → Nat → Int32)))).bind _ = _ ∧ _
      rw [d1]
      by_cases hc : (cnS s m L be he g w && decide (g &&& st = 0)) = true
      · refine ⟨I2, R2, ?_, c2.trans d2⟩
        rw [hc]
        simp only [Bool.and_eq_true, decide_eq_true_eq] at hc
        have e : cO m st (cnS s m L be he) (mnS s m L) g w = nI (mnS s m L g w) := if_pos ⟨by omega, hgm, hc.1, hc.2⟩
        rw [e]
        rfl
      · refine ⟨I1, R1, ?_, c2⟩
        rw [Bool.eq_false_iff.mpr hc]
        simp only [Bool.and_eq_true, decide_eq_true_eq] at hc
        have e : cO m st (cnS s m L be he) (mnS s m L) g w = -1 := if_neg (fun q => hc ⟨q.2.2.1, q.2.2.2⟩)
        rw [e]
        rfl
  · have : ¬ isS m (nI g) := by
      rintro ⟨x, hx, e⟩
      have := (nI_eq (by omega) (by omega)).mp e
      omega
    rw [isS_0 hm hR0 this]
    refine ⟨I, R, ?_, Lk.rfl' I R⟩
    have e : cO m st (cnS s m L be he) (mnS s m L) g w = -1 := if_neg (fun q => hgm q.2.1)
    rw [e]
    rfl
/-- the model has been looking at ways, too -/
def Lw (I I' : Nat → Int32) (R R' : Nat → Nat → Int32) : Prop := (∀ q, q ≠ 11 → q ≠ 12 → I' q = I q) ∧ ∀ q, q ≠ 9 → q ≠ 10 → q ≠ 13 → q ≠ 14 → q ≠ 15 → q ≠ 16 → R' q = R q
theorem Lw.trans {I I1 I2 : Nat → Int32} {R R1 R2 : Nat → Nat → Int32} (h1 : Lw I I1 R R1) (h2 : Lw I1 I2 R1 R2) : Lw I I2 R R2 := ⟨fun q a b => (h2.1 q a b).trans (h1.1 q a b), fun q a b c d e f => (h2.2 q a b c d e f).trans (h1.2 q a b c d e f)⟩
theorem Lk.w {I I1 : Nat → Int32} {R R1 : Nat → Nat → Int32} (h1 : Lk I I1 R R1) : Lw I I1 R R1 := ⟨h1.1, fun q a b _ _ _ _ => h1.2 q a b⟩
def csOK (R : Nat → Nat → Int32) (m st : Nat) (cn : Nat → Nat → Bool) (mn : Nat → Nat → Nat) : Prop := ∀ g w, g < 64 → w ≤ 1 → R 13 (64 * w + g) = cO m st cn mn g w
theorem costsM {n m st be he oi : Nat} {v1 : Int32} {s : Nat → Int32} {L : List Cls} {I : Nat → Int32} {R : Nat → Nat → Int32} (hn : 1000 ≤ n) (hL : NgM s L) (hT : tlM s be he oi) (hs : R 1 = s) (hm : m ≤ 6) (h0 : s 0 = nI m) (hV : VB s m) (hst : byI m v1 st) :
    ∃ I' R', p_Md_looksForCosts n v1 I R = some (I', R') ∧ Lw I I' R R' ∧ csOK R' m st (cnS s m L be he) (mnS s m L) := by
  obtain ⟨z, h1, h2, h3⟩ := q_lp (fun k i (u : (Nat → Int32) × (Nat → Nat → Int32)) => l_Md_looksForCosts_2 n v1 k (nI i) u.1 u.2) 128 (fun i u => Lw I u.1 R u.2 ∧ ∀ g w, g < 64 → w ≤ 1 → 64 * w + g < i → u.2 13 (64 * w + g) = cO m st (cnS s m L be he) (mnS s m L) g w) (fun z => Lw I z.1 R z.2 ∧ csOK z.2 m st (cnS s m L be he) (mnS s m L)) (fun k u hu => by
      refine ⟨(u.1, u.2), ?_, hu.1, fun g w hg hw => hu.2 g w hg hw (by omega)⟩
      show l_Md_looksForCosts_2 n v1 (k + 1) (nI 128) u.1 u.2 = _
      rw [cosB_eq, if_pos (by decide)]) (fun k i u hi hu => by
      obtain ⟨u1, u2⟩ := u
      dsimp only at hu
      obtain ⟨r1, r2⟩ := hu
      have r1' : Lw I u1 R u2 := r1
      have es : u2 1 = s := by rw [r1'.2 1 (by decide) (by decide) (by decide) (by decide) (by decide) (by decide), hs]
      show ∃ a' : (Nat → Int32) × (Nat → Nat → Int32), l_Md_looksForCosts_2 n v1 (k + 1) (nI i) u1 u2 = l_Md_looksForCosts_2 n v1 k (nI (i + 1)) a'.1 a'.2 ∧ _
      have e1 : nI i - nI i / (64 : Int32) * 64 = nI (i % 64) := pk_rem (d := 64) (by omega) (by omega) (by omega)
      have e2 : nI i / (64 : Int32) = nI (i / 64) := pk_div (d := 64) (by omega) (by omega) (by omega)
      rw [cosB_eq, if_neg (show ¬ (128 : Int32) ≤ nI i from nI_ge (b := 128) hi (by omega)), e1, e2]
      obtain ⟨I2, R2, c1, c2⟩ := cosB_ok (n := n) (g := i % 64) (w := i / 64) (I := u1) (f := (fun x16 I17 R18 => if ix (nI i) 128 then l_Md_looksForCosts_2 n v1 k (nI i + 1) I17 (upR R18 13 (nI i).toNatClampNeg x16) else none)) hn hL hT es hm h0 hV (by omega) (by omega) hst
      rw [c1, if_pos (nI_in hi (by omega)), nI_clamp (by omega), nI_1]
      refine ⟨(I2, upR R2 13 i (cO m st (cnS s m L be he) (mnS s m L) (i % 64) (i / 64))), rfl, ?_, fun g w hg hw hgi => ?_⟩
      · exact r1'.trans ⟨c2.1, fun q a b c d e f => by show upR R2 13 i _ q = _; rw [q_upN c]; exact c2.2 q a b⟩
      · show upR R2 13 i _ 13 (64 * w + g) = _
        by_cases e : 64 * w + g = i
        · rw [e, q_upV, show i % 64 = g by omega, show i / 64 = w by omega]
        · rw [q_upE (fun q => e q.2), c2.2 13 (by decide) (by decide)]
          exact r2 g w hg hw (by omega)) 0 (I, R) n (by omega) (by omega) ⟨⟨fun _ _ _ => rfl, fun _ _ _ _ _ _ _ => rfl⟩, fun g w hg hw h => by omega⟩
  obtain ⟨z1, z2⟩ := z
  refine ⟨z1, z2, ?_, h2, h3⟩
  unfold p_Md_looksForCosts
  have h1' : l_Md_looksForCosts_2 n v1 n 0 I R = some (z1, z2) := h1
  rw [h1']
  rfl
/-! ===== coming closer ===== -/
def ccB (n : Nat) (v1 v3 v4 v2 v5 : Int32) (I : Nat → Int32) (R : Nat → Nat → Int32) : Option (Int32 × (Nat → Int32) × (Nat → Nat → Int32)) := (if (R 13 ((64 * v4) + v5).toNatClampNeg) = (-1) then some (v2, I, R) else (p_Md_areHere n v5 v3 v4).bind fun x9 => (if x9 = 0 then some (v2, I, R) else if ix v1 128 then if ix (((v3 ^^^ v5) + (64 * (1 - v4)))) 128 then (if (R 14 (((v3 ^^^ v5) + (64 * (1 - v4)))).toNatClampNeg) ≤ ((R 14 v1.toNatClampNeg) + (R 13 ((64 * v4) + v5).toNatClampNeg)) then some 0 else some 1 : Option (Int32)).bind fun x13 => if ix v1 128 then if ix (((v3 ^^^ v5) + (64 * (1 - v4)))) 128 then (if (R 15 (((v3 ^^^ v5) + (64 * (1 - v4)))).toNatClampNeg) ≤ ((R 15 v1.toNatClampNeg) + 1) then some 0 else some 1 : Option (Int32)).bind fun x17 => (if x13 = 0 then if ix (((v3 ^^^ v5) + (64 * (1 - v4)))) 128 then some (R 14 (((v3 ^^^ v5) + (64 * (1 - v4)))).toNatClampNeg) else none else if ix v1 128 then some ((R 14 v1.toNatClampNeg) + (R 13 ((64 * v4) + v5).toNatClampNeg)) else none : Option (Int32)).bind fun x19 => if ix (((v3 ^^^ v5) + (64 * (1 - v4)))) 128 then (if x17 = 0 then if ix (((v3 ^^^ v5) + (64 * (1 - v4)))) 128 then some (((upR R 14 (((v3 ^^^ v5) + (64 * (1 - v4)))).toNatClampNeg x19)) 15 (((v3 ^^^ v5) + (64 * (1 - v4)))).toNatClampNeg) else none else if ix v1 128 then some ((((upR R 14 (((v3 ^^^ v5) + (64 * (1 - v4)))).toNatClampNeg x19)) 15 v1.toNatClampNeg) + 1) else none : Option (Int32)).bind fun x24 => if ix (((v3 ^^^ v5) + (64 * (1 - v4)))) 128 then (if v2 = 0 then (if x13 = 0 then (if x17 = 0 then some 0 else some 1) else some 1) else some 1 : Option (Int32)).bind fun x29 => some (x29, I, (upR (upR R 14 (((v3 ^^^ v5) + (64 * (1 - v4)))).toNatClampNeg x19) 15 (((v3 ^^^ v5) + (64 * (1 - v4)))).toNatClampNeg x24)) else none else none else none else none else none else none) : Option (Int32 × (Nat → Int32) × (Nat → Nat → Int32)))
theorem ccB_eq {n k : Nat} {v1 v3 v4 v2 v5 : Int32} {I : Nat → Int32} {R : Nat → Nat → Int32} : l_Md_comesCloser_16 n v1 v3 v4 (k + 1) v2 v5 I R = (p_Md_all n I R).bind fun x2 => (if x2 < v5 then some (v2, I, R) else if ix ((64 * v4) + v5) 128 then (ccB n v1 v3 v4 v2 v5 I R).bind fun (x5, I6, R7) => l_Md_comesCloser_16 n v1 v3 v4 k x5 (v5 + 1) I6 R7 else none) := rfl
def ud (f : Nat → Nat) (k x : Nat) : Nat → Nat := fun j => if j = k then x else f j
theorem ud_s {f : Nat → Nat} {k x : Nat} : ud f k x k = x := if_pos rfl
theorem ud_n {f : Nat → Nat} {k x j : Nat} (h : j ≠ k) : ud f k x j = f j := if_neg h
theorem hereM {n g a w : Nat} (hg : g < 64) (ha : a < 64) (hw : w ≤ 1) : p_Md_areHere n (nI g) (nI a) (nI w) = some (b2i (hr g a w)) := by
  unfold p_Md_areHere hr
  rw [q_and g hg a ha]
  have hlt : g &&& a < 64 := Nat.lt_of_le_of_lt Nat.and_le_left hg
  rcases (by omega : w = 0 ∨ w = 1) with rfl | rfl
  · rw [if_neg (show ¬ nI 0 = 1 by decide), if_neg (show ¬ (0 : Nat) = 1 by decide)]
    by_cases h : g &&& a = 0
    · rw [h, if_pos (show nI 0 = 0 from rfl)]; rfl
    · rw [if_neg (show ¬ nI (g &&& a) = 0 from fun q => h ((nI_eq (a := g &&& a) (b := 0) (by omega) (by omega)).mp q)), decide_eq_false h]; rfl
  · rw [if_pos (show nI 1 = 1 from rfl), if_pos (show (1 : Nat) = 1 from rfl)]
    by_cases h : g &&& a = g
    · rw [decide_eq_true h, h, if_pos rfl]; rfl
    · rw [if_neg (fun q => h ((nI_eq (by omega) (by omega)).mp q)), decide_eq_false h]; rfl
theorem q_x64 {a g : Nat} (ha : a < 64) (hg : g < 64) : a ^^^ g < 64 := Nat.xor_lt_two_pow (n := 6) ha hg
theorem q_to {a g w : Nat} (ha : a < 64) (hg : g < 64) (hw : w ≤ 1) : (nI a ^^^ nI g) + (64 * (1 - nI w)) = nI ((a ^^^ g) + 64 * (1 - w)) := by
  have e1 : (1 : Int32) - nI w = nI (1 - w) := pk_sub (a := 1) hw
  rw [q_xor a ha g hg, e1, show (64 : Int32) * nI (1 - w) = nI (64 * (1 - w)) from pk_mul 64 (1 - w), nI_add]
theorem q_min {x y : Nat} (hx : x < 2 ^ 31) (hy : y < 2 ^ 31) : (if nI y ≤ nI x then some 0 else some 1 : Option Int32) = some (b2i (decide (x < y))) := by
  by_cases h : x < y
  · rw [if_neg (nI_ge h hy), decide_eq_true h]; rfl
  · rw [if_pos (nI_le (by omega) hx), decide_eq_false h]; rfl
def DSok (R : Nat → Nat → Int32) (D S : Nat → Nat) : Prop := ∀ k, k < 128 → R 14 k = nI (D k) ∧ R 15 k = nI (S k) ∧ D k ≤ 1000000 ∧ S k ≤ 1000000
theorem ccB_ok {n m st g a w : Nat} {an : Bool} {cn : Nat → Nat → Bool} {mn : Nat → Nat → Nat} {D S : Nat → Nat} {I : Nat → Int32} {R : Nat → Nat → Int32} (hg : g < 64) (ha : a < 64) (hw : w ≤ 1) (hc : csOK R m st cn mn) (hD : DSok R D S) (hb : mn g w ≤ 1050) :
    ∃ R', ccB n (nI (a + 64 * w)) (nI a) (nI w) (b2i an) (nI g) I R = some (b2i (if (1 ≤ g ∧ g < 2 ^ m ∧ cn g w = true ∧ g &&& st = 0) ∧ hr g a w = true then (an || (decide (D (a + 64 * w) + mn g w < D ((a ^^^ g) + 64 * (1 - w))) || decide (S (a + 64 * w) + 1 < S ((a ^^^ g) + 64 * (1 - w))))) else an), I, R') ∧ (∀ q, q ≠ 14 → q ≠ 15 → R' q = R q) ∧ DSok R' (if (1 ≤ g ∧ g < 2 ^ m ∧ cn g w = true ∧ g &&& st = 0) ∧ hr g a w = true then ud D ((a ^^^ g) + 64 * (1 - w)) (min (D ((a ^^^ g) + 64 * (1 - w))) (D (a + 64 * w) + mn g w)) else D) (if (1 ≤ g ∧ g < 2 ^ m ∧ cn g w = true ∧ g &&& st = 0) ∧ hr g a w = true then ud S ((a ^^^ g) + 64 * (1 - w)) (min (S ((a ^^^ g) + 64 * (1 - w))) (S (a + 64 * w) + 1)) else S) := by
  have e64 : (64 : Int32) * nI w + nI g = nI (64 * w + g) := by rw [show (64 : Int32) * nI w = nI (64 * w) from pk_mul 64 w, nI_add]
  have hx := q_x64 ha hg
  unfold ccB
  rw [e64, q_to ha hg hw, hereM hg ha hw]
  simp only [nI_clamp (show 64 * w + g < 2 ^ 31 by omega), nI_clamp (show (a ^^^ g) + 64 * (1 - w) < 2 ^ 31 by omega), nI_clamp (show a + 64 * w < 2 ^ 31 by omega)]
  rw [hc g w hg hw]
  unfold cO
  by_cases hv : 1 ≤ g ∧ g < 2 ^ m ∧ cn g w = true ∧ g &&& st = 0
  · have hne : ¬ nI (mn g w) = (-1) := fun e => nI_pos (n := mn g w) (by omega) (by rw [e]; decide)
    rw [if_pos hv, if_neg hne]
    cases hh : hr g a w
    · have hq : ¬ ((1 ≤ g ∧ g < 2 ^ m ∧ cn g w = true ∧ g &&& st = 0) ∧ false = true) := fun q => absurd q.2 (by decide)
      refine ⟨R, ?_, fun _ _ _ => rfl, ?_⟩
      · rw [if_neg hq]; rfl
      · rw [if_neg hq, if_neg hq]; exact hD
    · have i1 : ix (nI (a + 64 * w)) 128 := nI_in (by omega) (by omega)
      have i2 : ix (nI ((a ^^^ g) + 64 * (1 - w))) 128 := nI_in (by omega) (by omega)
      obtain ⟨k1, k2, k3, k4⟩ := hD (a + 64 * w) (by omega)
      obtain ⟨t1, t2, t3, t4⟩ := hD ((a ^^^ g) + 64 * (1 - w)) (by omega)
      generalize hto : (a ^^^ g) + 64 * (1 - w) = to at *
      generalize hk0 : a + 64 * w = k0 at *
      have hq : (1 ≤ g ∧ g < 2 ^ m ∧ cn g w = true ∧ g &&& st = 0) ∧ true = true := ⟨hv, rfl⟩
      rw [if_pos hq, if_pos hq, if_pos hq]
      refine ⟨upR (upR R 14 to (nI (min (D to) (D k0 + mn g w)))) 15 to (nI (min (S to) (S k0 + 1))), ?_, fun q q1 q2 => by rw [q_upN q2, q_upN q1], fun k hk => ?_⟩
      · rw [Option.bind_some, if_neg (show ¬ b2i true = 0 by decide), if_pos i1, if_pos i2, k1, t1, nI_add, q_min (by omega) (by omega)]
        show (if ix (nI k0) 128 then if ix (nI to) 128 then ((if R 15 to ≤ R 15 k0 + 1 then some 0 else some 1 : Option Int32)).bind _ else none else none) = _
        rw [if_pos i1, if_pos i2, k2, t2, nI_1, q_min (by omega) (by omega)]
        have f1 : (if b2i (decide (D k0 + mn g w < D to)) = 0 then if ix (nI to) 128 then some (nI (D to)) else none else if ix (nI k0) 128 then some (nI (D k0 + mn g w)) else none : Option Int32) = some (nI (min (D to) (D k0 + mn g w))) := by
          rw [if_pos i1, if_pos i2]
          by_cases h : D k0 + mn g w < D to
          · rw [decide_eq_true h, if_neg (show ¬ b2i true = 0 by decide), Nat.min_eq_right (by omega)]
          · rw [decide_eq_false h, if_pos (show b2i false = 0 from rfl), Nat.min_eq_left (by omega)]
        show ((if b2i (decide (D k0 + mn g w < D to)) = 0 then if ix (nI to) 128 then some (nI (D to)) else none else if ix (nI k0) 128 then some (nI (D k0 + mn g w)) else none : Option Int32)).bind _ = _
        rw [f1]
        have f2 : (if b2i (decide (S k0 + 1 < S to)) = 0 then if ix (nI to) 128 then some ((upR R 14 to (nI (min (D to) (D k0 + mn g w)))) 15 to) else none else if ix (nI k0) 128 then some ((upR R 14 to (nI (min (D to) (D k0 + mn g w)))) 15 k0 + 1) else none : Option Int32) = some (nI (min (S to) (S k0 + 1))) := by
          rw [if_pos i1, if_pos i2, q_upN (by decide), t2, k2, nI_1]
          by_cases h : S k0 + 1 < S to
          · rw [decide_eq_true h, if_neg (show ¬ b2i true = 0 by decide), Nat.min_eq_right (by omega)]
          · rw [decide_eq_false h, if_pos (show b2i false = 0 from rfl), Nat.min_eq_left (by omega)]
        show (if ix (nI to) 128 then ((if b2i (decide (S k0 + 1 < S to)) = 0 then if ix (nI to) 128 then some ((upR R 14 to (nI (min (D to) (D k0 + mn g w)))) 15 to) else none else if ix (nI k0) 128 then some ((upR R 14 to (nI (min (D to) (D k0 + mn g w)))) 15 k0 + 1) else none : Option Int32)).bind _ else none) = _
        rw [f2, if_pos i2]
        show (if ix (nI to) 128 then ((if b2i an = 0 then (if b2i (decide (D k0 + mn g w < D to)) = 0 then (if b2i (decide (S k0 + 1 < S to)) = 0 then some 0 else some 1) else some 1) else some 1 : Option Int32)).bind _ else none) = _
        rw [if_pos i2]
        cases an <;> cases decide (D k0 + mn g w < D to) <;> cases decide (S k0 + 1 < S to) <;> rfl
      · obtain ⟨d1, d2, d3, d4⟩ := hD k hk
        by_cases e : k = to
        · subst e
          rw [ud_s, ud_s, q_upV, q_upN (by decide), q_upV]
          exact ⟨rfl, rfl, by omega, by omega⟩
        · rw [ud_n e, ud_n e, q_upN (by decide), q_upE (fun q => e q.2), q_upE (fun q => e q.2), q_upN (by decide)]
          exact ⟨d1, d2, d3, d4⟩
  · rw [if_neg hv, if_pos rfl]
    have hq : ¬ ((1 ≤ g ∧ g < 2 ^ m ∧ cn g w = true ∧ g &&& st = 0) ∧ hr g a w = true) := fun q => hv q.1
    refine ⟨R, ?_, fun _ _ _ => rfl, ?_⟩
    · rw [if_neg hq]
    · rw [if_neg hq, if_neg hq]; exact hD
