/-! ===== what one takes, by the model ===== -/
def t25 (K V : Int32) (al : Bool) : Option Int32 := (if K = 1 then (if b2i al = 0 then some 0 else some V) else (if K = 4 then (if b2i al = 0 then some 0 else some V) else some 0) : Option (Int32))
def t27 (K V : Int32) (h : Bool) : Option Int32 := (if K = 2 then (if b2i h = 0 then some V else some 0) else (if K = 5 then (if b2i h = 0 then some V else some 0) else some 0) : Option (Int32))
def t29 (K T x25 x27 : Int32) (al : Bool) : Option Int32 := (if K = 5 then (if b2i al = 0 then some ((((T - x25) + x27) + 1) / 2) else some ((T - x25) + x27)) else some ((T - x25) + x27) : Option (Int32))
def t31 (K V : Int32) (g1 g2 : Bool) : Option Int32 := (if K = 3 then (if b2i g1 = 0 then (if b2i g2 = 0 then some V else some 0) else some 0) else (if K = 6 then (if b2i g1 = 0 then (if b2i g2 = 0 then some V else some 0) else some 0) else some 0) : Option (Int32))
def t41 (K V W : Int32) : Option Int32 := (if K = 6 then (if W = 1 then some V else some 0) else some 0 : Option (Int32))
def tkT {β : Type} (K V T W : Int32) (h l al g1 g2 : Bool) (f : Int32 → Option β) : Option β :=
  (t25 K V al).bind fun x25 => (t27 K V h).bind fun x27 => (t29 K T x25 x27 al).bind fun x29 => (t31 K V g1 g2).bind fun x31 => (t41 K V W).bind fun x41 => (if b2i l = 0 then some 0 else some 1 : Option (Int32)).bind fun x43 => (if 1 ≤ (((x29 + x31) + x41) - x43) then some (((x29 + x31) + x41) - x43) else some 1 : Option (Int32)).bind f
theorem tkT_ok {β : Type} {k v t w : Nat} {h l al g1 g2 : Bool} {f : Int32 → Option β} (hk : k ≤ 6) (hv : v ≤ 9) (ht : t ≤ 5000) (hw : w ≤ 1) : tkT (nI k) (nI v) (nI t) (nI w) h l al g1 g2 f = f (nI (tkN k v t h l al (g1 || g2) (decide (w = 1)))) := by
  have hk7 : k = 0 ∨ k = 1 ∨ k = 2 ∨ k = 3 ∨ k = 4 ∨ k = 5 ∨ k = 6 := by omega
  have hw2 : w = 0 ∨ w = 1 := by omega
  obtain ⟨c25, h25⟩ : ∃ c, c = if (k = 1 ∨ k = 4) ∧ al = true then v else 0 := ⟨_, rfl⟩
  obtain ⟨c27, h27⟩ : ∃ c, c = if (k = 2 ∨ k = 5) ∧ h = false then v else 0 := ⟨_, rfl⟩
  obtain ⟨c31, h31⟩ : ∃ c, c = if (k = 3 ∨ k = 6) ∧ (g1 || g2) = false then v else 0 := ⟨_, rfl⟩
  obtain ⟨c41, h41⟩ : ∃ c, c = if k = 6 ∧ w = 1 then v else 0 := ⟨_, rfl⟩
  obtain ⟨c43, h43⟩ : ∃ c, c = if l = true then 1 else 0 := ⟨_, rfl⟩
  have e25 : t25 (nI k) (nI v) al = some (nI c25) := by rw [h25]; rcases hk7 with rfl | rfl | rfl | rfl | rfl | rfl | rfl <;> cases al <;> rfl
  have e27 : t27 (nI k) (nI v) h = some (nI c27) := by rw [h27]; rcases hk7 with rfl | rfl | rfl | rfl | rfl | rfl | rfl <;> cases h <;> rfl
  have e31 : t31 (nI k) (nI v) g1 g2 = some (nI c31) := by rw [h31]; rcases hk7 with rfl | rfl | rfl | rfl | rfl | rfl | rfl <;> cases g1 <;> cases g2 <;> rfl
  have e41 : t41 (nI k) (nI v) (nI w) = some (nI c41) := by rw [h41]; rcases hk7 with rfl | rfl | rfl | rfl | rfl | rfl | rfl <;> rcases hw2 with rfl | rfl <;> rfl
  have e43 : (if b2i l = 0 then some 0 else some 1 : Option Int32) = some (nI c43) := by rw [h43]; cases l <;> rfl
  have b25 : c25 ≤ 9 := by rw [h25]; split <;> omega
  have b27 : c27 ≤ 9 := by rw [h27]; split <;> omega
  have b31 : c31 ≤ 9 := by rw [h31]; split <;> omega
  have b41 : c41 ≤ 9 := by rw [h41]; split <;> omega
  have b43 : c43 ≤ 1 := by rw [h43]; split <;> omega
  have i1 : (nI t - nI c25).toInt = (t : Int) - c25 := i_sub (nI_toInt (by omega)) (nI_toInt (by omega)) (by omega) (by omega) (by omega) (by omega)
  have i2 : (nI t - nI c25 + nI c27).toInt = (t : Int) - c25 + c27 := i_add i1 (nI_toInt (by omega)) (by omega) (by omega) (by omega) (by omega)
  obtain ⟨x29, z, e29, hz, hzb, hz5⟩ : ∃ (x : Int32) (z : Int), t29 (nI k) (nI t) (nI c25) (nI c27) al = some x ∧ x.toInt = z ∧ (-100 ≤ z ∧ z ≤ 6000) ∧ z = if k = 5 ∧ al = false then ((((t + c27 + 1) / 2 : Nat)) : Int) else (t : Int) - c25 + c27 := by
    unfold t29
    by_cases h5 : k = 5
    · subst h5
      have c0 : c25 = 0 := by rw [h25]; simp
      subst c0
      rw [if_pos (show nI 5 = 5 from rfl)]
      have e0 : nI t - nI 0 + nI c27 = nI (t + c27) := by rw [nI_0, Int32.sub_zero, nI_add]
      cases al
      · refine ⟨nI ((t + c27 + 1) / 2), _, ?_, nI_toInt (by omega), ⟨by omega, by omega⟩, by simp⟩
        rw [if_pos (show b2i false = 0 from rfl), e0, nI_1]
        exact congrArg some (pk_div (d := 2) (by omega) (by omega) (by omega))
      · refine ⟨_, _, ?_, i2, ⟨by omega, by omega⟩, by simp⟩
        rw [if_neg (by decide)]
    · refine ⟨_, _, ?_, i2, ⟨by omega, by omega⟩, by rw [if_neg (fun q => h5 q.1)]⟩
      rw [if_neg (show ¬ nI (k) = 5 from fun q => h5 ((nI_eq (a := k) (b := 5) (by omega) (by omega)).mp q))]
  have i3 : (x29 + nI c31).toInt = z + c31 := i_add hz (nI_toInt (by omega)) (by omega) (by omega) (by omega) (by omega)
  have i4 : (x29 + nI c31 + nI c41).toInt = z + c31 + c41 := i_add i3 (nI_toInt (by omega)) (by omega) (by omega) (by omega) (by omega)
  have i5 : (x29 + nI c31 + nI c41 - nI c43).toInt = z + c31 + c41 - c43 := i_sub i4 (nI_toInt (by omega)) (by omega) (by omega) (by omega) (by omega)
  have hfin : max 1 (z + c31 + c41 - c43).toNat = tkN k v t h l al (g1 || g2) (decide (w = 1)) := by
    unfold tkN
    generalize (g1 || g2) = g at h31 ⊢
    subst h25 h27 h31 h41 h43 hz5
    rcases hw2 with rfl | rfl <;> rcases hk7 with rfl | rfl | rfl | rfl | rfl | rfl | rfl <;> cases al <;> cases h <;> cases g <;> cases l <;> simp <;> omega
  unfold tkT
  simp only [e25, e27, e29, e31, e41, e43, Option.bind_some, fin1 i5, hfin]
theorem q_btm {m a q : Nat} (ha : a < 2 ^ m) (hq : m ≤ q) : bt a q = false := Nat.testBit_lt_two_pow (Nat.lt_of_lt_of_le ha (Nat.pow_le_pow_right (by omega) hq))
theorem q_goesL {m p a n : Nat} {I : Nat → Int32} {R : Nat → Nat → Int32} (hm : m ≤ 6) (hs : R 1 0 = nI m) (hp : p < m) (ha : a < 64) : p_Md_goes n (nI p - 1) (nI a) I R = some (b2i (decide (1 ≤ p) && bt a (p - 1))) := by
  cases p with
  | zero =>
    unfold p_Md_goes
    rcases q_per (v := nI 0 - 1) (n := n) (I := I) hm hs with ⟨j, hj, e, h⟩ | ⟨-, h⟩
    · exact absurd (show nI j < 0 by rw [← e]; decide) (nI_pos (by omega))
    · rw [h]; rfl
  | succ p =>
    rw [nI_pred, q_goes hm hs (by omega) ha]
    simp
theorem q_goesR {m p a n : Nat} {I : Nat → Int32} {R : Nat → Nat → Int32} (hm : m ≤ 6) (hs : R 1 0 = nI m) (hp : p < m) (ha : a < 2 ^ m) : p_Md_goes n (nI p + 1) (nI a) I R = some (b2i (bt a (p + 1))) := by
  rw [nI_1]
  by_cases h1 : p + 1 < m
  · exact q_goes hm hs h1 (isS_lt hm ha)
  · unfold p_Md_goes
    rcases q_per (v := nI (p + 1)) (n := n) (I := I) hm hs with ⟨j, hj, e, h⟩ | ⟨-, h⟩
    · have := (nI_eq (by omega) (by omega)).mp e
      omega
    · rw [h, q_btm ha (by omega)]; rfl
def takesC (n : Nat) (v1 v2 v3 : Int32) (I2 : Nat → Int32) (R3 : Nat → Nat → Int32) : Option (Int32 × MU) := if ix (16 + v1) 890 then if ix (10 + v1) 890 then if ix (22 + v1) 890 then (l_Md_takes_54 n v1 v2 v3 (R3 1 (16 + v1).toNatClampNeg) (R3 1 (10 + v1).toNatClampNeg) (((R3 1 (22 + v1).toNatClampNeg) + (I2 11))) I2 R3 n 0 0 0).bind fun (y18, y19) => (p_Md_count1 n v2).bind fun x21 => (if x21 = 1 then some 1 else some 0 : Option (Int32)).bind fun x23 => (if (R3 1 (10 + v1).toNatClampNeg) = 1 then (if x23 = 0 then some 0 else some (R3 1 (16 + v1).toNatClampNeg)) else (if (R3 1 (10 + v1).toNatClampNeg) = 4 then (if x23 = 0 then some 0 else some (R3 1 (16 + v1).toNatClampNeg)) else some 0) : Option (Int32)).bind fun x25 => (if (R3 1 (10 + v1).toNatClampNeg) = 2 then (if y18 = 0 then some (R3 1 (16 + v1).toNatClampNeg) else some 0) else (if (R3 1 (10 + v1).toNatClampNeg) = 5 then (if y18 = 0 then some (R3 1 (16 + v1).toNatClampNeg) else some 0) else some 0) : Option (Int32)).bind fun x27 => (if (R3 1 (10 + v1).toNatClampNeg) = 5 then (if x23 = 0 then some ((((((R3 1 (22 + v1).toNatClampNeg) + (I2 11)) - x25) + x27) + 1) / 2) else some ((((R3 1 (22 + v1).toNatClampNeg) + (I2 11)) - x25) + x27)) else some ((((R3 1 (22 + v1).toNatClampNeg) + (I2 11)) - x25) + x27) : Option (Int32)).bind fun x29 => (if (R3 1 (10 + v1).toNatClampNeg) = 3 then (p_Md_goes n (v1 - 1) v2 I2 R3).bind fun x33 => (if x33 = 0 then (p_Md_goes n (v1 + 1) v2 I2 R3).bind fun x35 => (if x35 = 0 then some (R3 1 (16 + v1).toNatClampNeg) else some 0) else some 0) else (if (R3 1 (10 + v1).toNatClampNeg) = 6 then (p_Md_goes n (v1 - 1) v2 I2 R3).bind fun x37 => (if x37 = 0 then (p_Md_goes n (v1 + 1) v2 I2 R3).bind fun x39 => (if x39 = 0 then some (R3 1 (16 + v1).toNatClampNeg) else some 0) else some 0) else some 0) : Option (Int32)).bind fun x31 => (if (R3 1 (10 + v1).toNatClampNeg) = 6 then (if v3 = 1 then some (R3 1 (16 + v1).toNatClampNeg) else some 0) else some 0 : Option (Int32)).bind fun x41 => (if y19 = 0 then some 0 else some 1 : Option (Int32)).bind fun x43 => (if 1 ≤ (((x29 + x31) + x41) - x43) then some (((x29 + x31) + x41) - x43) else some 1 : Option (Int32)).bind fun x45 => some (x45, I2, R3) else none else none else none
/-- the model has only been looking -/
def Lk (I I' : Nat → Int32) (R R' : Nat → Nat → Int32) : Prop := (∀ q, q ≠ 11 → q ≠ 12 → I' q = I q) ∧ ∀ q, q ≠ 9 → q ≠ 10 → R' q = R q
theorem Lk.rfl' (I : Nat → Int32) (R : Nat → Nat → Int32) : Lk I I R R := ⟨fun _ _ _ => rfl, fun _ _ _ => rfl⟩
theorem Lk.trans {I I1 I2 : Nat → Int32} {R R1 R2 : Nat → Nat → Int32} (h1 : Lk I I1 R R1) (h2 : Lk I1 I2 R1 R2) : Lk I I2 R R2 := ⟨fun q a b => (h2.1 q a b).trans (h1.1 q a b), fun q a b => (h2.2 q a b).trans (h1.2 q a b)⟩
theorem takesM {n m p a w : Nat} {s : Nat → Int32} {L : List Cls} {I : Nat → Int32} {R : Nat → Nat → Int32} (hn : 1000 ≤ n) (hL : NgM s L) (hs : R 1 = s) (hm : m ≤ 6) (h0 : s 0 = nI m) (hV : VB s m) (hp : p < m) (ha : a < 2 ^ m) (hw : w ≤ 1) :
    ∃ I' R', p_Md_takes n (nI p) (nI a) (nI w) I R = some (nI (tkS s m L p a w), I', R') ∧ Lk I I' R R' := by
  have ha6 := isS_lt hm ha
  obtain ⟨I2, R3, h1, h2, h3, h4, h5⟩ := looksM (w := w) (I := I) hn hL hs (show p < 6 by omega) ha6
  refine ⟨I2, R3, ?_, h4, h5⟩
  unfold p_Md_takes
  rw [h1]
  show takesC n (nI p) (nI a) (nI w) I2 R3 = _
  have hs3 : R3 1 = s := by rw [h5 1 (by decide) (by decide), hs]
  have hR0 : R3 1 0 = nI m := by rw [hs3, h0]
  obtain ⟨k, v, pc, wt, vk, vv, vp, vw, k6, v9, p1, p30, w9⟩ := hV p hp
  have e16 : (16 : Int32) + nI p = nI (16 + p) := nI_add 16 p
  have e10 : (10 : Int32) + nI p = nI (10 + p) := nI_add 10 p
  have e22 : (22 : Int32) + nI p = nI (22 + p) := nI_add 22 p
  have hsl := slw_le (fcs s p a w) L hL.1
  have hLl := hL.2.1
  unfold takesC
  rw [e16, e10, e22, if_pos (nI_in (by omega) (by omega)), if_pos (nI_in (by omega) (by omega)), if_pos (nI_in (by omega) (by omega)), nI_clamp (n := 16 + p) (by omega), nI_clamp (n := 10 + p) (by omega), nI_clamp (n := 22 + p) (by omega), hs3, vk, vv, vp, h2, nI_add, takes54 (by omega) hs3 hm h0 hp ha6, q_popM n a (by omega) ha6, q_goesL hm hR0 hp ha6, q_goesR hm hR0 hp ha]
  have eal : (if nI (pop a) = 1 then some 1 else some 0 : Option Int32) = some (b2i (decide (pop a = 1))) := by
    have := q_pop_le a ha6
    by_cases h : pop a = 1
    · rw [h]; rfl
    · rw [if_neg (show ¬ nI (pop a) = 1 from fun q => h ((nI_eq (a := pop a) (b := 1) (by omega) (by omega)).mp q)), decide_eq_false h]; rfl
  show (if nI (pop a) = 1 then some 1 else some 0 : Option Int32).bind _ = _
  rw [eal]
  show tkT (nI k) (nI v) (nI (pc + slw (fcs s p a w) L)) (nI w) (hv s p a m) (ld s p a m) (decide (pop a = 1)) (decide (1 ≤ p) && bt a (p - 1)) (bt a (p + 1)) (fun x45 => some (x45, I2, R3)) = _
  rw [tkT_ok k6 v9 (by omega) hw]
  unfold tkS
  rw [vk, vv, vp, nI_clamp (by omega), nI_clamp (by omega), nI_clamp (by omega)]
  rfl
theorem tkS_b {m p a w : Nat} {s : Nat → Int32} {L : List Cls} (hV : VB s m) (hp : p < m) (hok : ∀ c ∈ L, clOK c) (hl : L.length ≤ 10) : 1 ≤ tkS s m L p a w ∧ tkS s m L p a w ≤ 1050 := by
  obtain ⟨k, v, pc, wt, vk, vv, vp, vw, k6, v9, p1, p30, w9⟩ := hV p hp
  unfold tkS
  rw [vk, vv, vp, nI_clamp (by omega), nI_clamp (by omega), nI_clamp (by omega)]
  have hsl := slw_le (fcs s p a w) L hok
  have := tkN_b (k := k) (v := v) (t := pc + slw (fcs s p a w) L) (h := hv s p a m) (l := ld s p a m) (al := decide (pop a = 1)) (nb := nbr p a) (b1 := decide (w = 1)) v9
  omega
/-- the most of those in a -/
def mxB (f : Nat → Nat) (a : Nat) : Nat → Nat
  | 0 => 0
  | i + 1 => max (mxB f a i) (if bt a i = true then f i else 0)
def mnS (s : Nat → Int32) (m : Nat) (L : List Cls) (a w : Nat) : Nat := mxB (fun p => tkS s m L p a w) a m
theorem mxB_le {f : Nat → Nat} {a B : Nat} : ∀ m, (∀ i, i < m → f i ≤ B) → mxB f a m ≤ B
  | 0, _ => Nat.zero_le _
  | m + 1, h => by
    have h1 := mxB_le (f := f) (a := a) m (fun i hi => h i (by omega))
    have h2 := h m (by omega)
    simp only [mxB]
    split <;> omega
theorem mxB_ge {f : Nat → Nat} {a i : Nat} : ∀ m, i < m → bt a i = true → f i ≤ mxB f a m
  | 0, h, _ => absurd h (by omega)
  | m + 1, h, hb => by
    simp only [mxB]
    by_cases e : i = m
    · subst e; rw [if_pos hb]; omega
    · have := mxB_ge (f := f) (a := a) m (by omega) hb
      omega
theorem mnS_le {m a w : Nat} {s : Nat → Int32} {L : List Cls} (hV : VB s m) (hok : ∀ c ∈ L, clOK c) (hl : L.length ≤ 10) : mnS s m L a w ≤ 1050 := mxB_le m (fun i hi => (tkS_b hV hi hok hl).2)
theorem q_nz {m a : Nat} (ha : a < 2 ^ m) (h : 1 ≤ a) : ∃ i, i < m ∧ bt a i = true := by
  apply Classical.byContradiction
  intro hc
  have : a = 0 := Nat.eq_of_testBit_eq (fun i => by
    rw [Nat.zero_testBit]
    by_cases hi : i < m
    · cases hb : bt a i
      · exact hb
      · exact absurd ⟨i, hi, hb⟩ hc
    · exact q_btm ha (by omega))
  omega
theorem mnS_ge {m a w : Nat} {s : Nat → Int32} {L : List Cls} (hV : VB s m) (hok : ∀ c ∈ L, clOK c) (hl : L.length ≤ 10) (ha : a < 2 ^ m) (h1 : 1 ≤ a) : 1 ≤ mnS s m L a w := by
  obtain ⟨i, hi, hb⟩ := q_nz ha h1
  have h2 := mxB_ge (f := fun p => tkS s m L p a w) m hi hb
  have h3 := (tkS_b (a := a) (w := w) hV hi hok hl).1
  exact Nat.le_trans h3 h2
theorem minutesM {n m a w : Nat} {s : Nat → Int32} {L : List Cls} {I : Nat → Int32} {R : Nat → Nat → Int32} (hn : 1000 ≤ n) (hL : NgM s L) (hs : R 1 = s) (hm : m ≤ 6) (h0 : s 0 = nI m) (hV : VB s m) (ha : a < 2 ^ m) (hw : w ≤ 1) :
    ∃ I' R', p_Md_minutesOf n (nI a) (nI w) I R = some (nI (mnS s m L a w), I', R') ∧ Lk I I' R R' := by
  have ha6 := isS_lt hm ha
  obtain ⟨z, h1, h2, h3⟩ := q_lp (fun k i (u : Int32 × (Nat → Int32) × (Nat → Nat → Int32)) => l_Md_minutesOf_5 n (nI a) (nI w) k u.1 (nI i) u.2.1 u.2.2) m (fun i u => u.1 = nI (mxB (fun p => tkS s m L p a w) a i) ∧ Lk I u.2.1 R u.2.2) (fun z => z.1 = nI (mnS s m L a w) ∧ Lk I z.2.1 R z.2.2) (fun k u hu => by
      obtain ⟨u1, u2, u3⟩ := u
      dsimp only at hu
      refine ⟨(u1, u2, u3), ?_, hu⟩
      show l_Md_minutesOf_5 n (nI a) (nI w) (k + 1) u1 (nI m) u2 u3 = _
      have e : u3 1 0 = nI m := by rw [hu.2.2 1 (by decide) (by decide), hs, h0]
      rw [l_Md_minutesOf_5, e, if_pos (Int32.le_refl _)]) (fun k i u hi hu => by
      obtain ⟨u1, u2, u3⟩ := u
      dsimp only at hu
      obtain ⟨hu1, hu2⟩ := hu
      have hu1' : u1 = nI (mxB (fun p => tkS s m L p a w) a i) := hu1
      have es : u3 1 = s := by rw [hu2.2 1 (by decide) (by decide), hs]
      have e : u3 1 0 = nI m := by rw [es, h0]
      have hb : mxB (fun p => tkS s m L p a w) a i ≤ 1050 := mxB_le i (fun j hj => (tkS_b hV (by omega) hL.1 hL.2.1).2)
      have ht := (tkS_b (a := a) (w := w) hV hi hL.1 hL.2.1).2
      have fin : ∀ (x : Nat) (I2 : Nat → Int32) (R2 : Nat → Nat → Int32), x ≤ 1050 → x = (if bt a i = true then tkS s m L i a w else 0) → Lk u2 I2 u3 R2 → ∃ a' : Int32 × (Nat → Int32) × (Nat → Nat → Int32), ((if nI x ≤ u1 then some u1 else some (nI x) : Option Int32).bind fun x10 => l_Md_minutesOf_5 n (nI a) (nI w) k x10 (nI i + 1) I2 R2) = l_Md_minutesOf_5 n (nI a) (nI w) k a'.1 (nI (i + 1)) a'.2.1 a'.2.2 ∧ a'.1 = nI (mxB (fun p => tkS s m L p a w) a (i + 1)) ∧ Lk I a'.2.1 R a'.2.2 := by
        intro x I2 R2 hx ex hl
        refine ⟨(nI (mxB (fun p => tkS s m L p a w) a (i + 1)), I2, R2), ?_, rfl, hu2.trans hl⟩
        simp only [mxB, ← ex]
        rw [hu1', nI_1]
        by_cases hc : x ≤ mxB (fun p => tkS s m L p a w) a i
        · rw [if_pos (nI_le hc (by omega)), Nat.max_eq_left hc]; rfl
        · rw [if_neg (nI_ge (by omega) (by omega)), Nat.max_eq_right (by omega)]; rfl
      show ∃ a' : Int32 × (Nat → Int32) × (Nat → Nat → Int32), l_Md_minutesOf_5 n (nI a) (nI w) (k + 1) u1 (nI i) u2 u3 = _ ∧ _
      rw [l_Md_minutesOf_5, e, if_neg (nI_ge hi (by omega))]
      by_cases hbt : bt a i = true
      · obtain ⟨I2, R2, t1, t2⟩ := takesM (I := u2) hn hL es hm h0 hV hi ha hw
        rw [if_pos ((q_bit1 a ha6 i (by omega)).mpr hbt), t1]
        exact fin _ I2 R2 ht (by rw [if_pos hbt]) t2
      · rw [if_neg (fun q => hbt ((q_bit1 a ha6 i (by omega)).mp q))]
        exact fin 0 u2 u3 (by omega) (by rw [if_neg hbt]) (Lk.rfl' _ _)) 0 (0, I, R) n (by omega) (by omega) ⟨rfl, Lk.rfl' I R⟩
  obtain ⟨z1, z2, z3⟩ := z
  refine ⟨z2, z3, ?_, h3⟩
  unfold p_Md_minutesOf
  have h1' : l_Md_minutesOf_5 n (nI a) (nI w) n 0 0 I R = some (z1, z2, z3) := h1
  have h2' : z1 = nI (mnS s m L a w) := h2
  rw [h1', h2']
  rfl
def wtS (s : Nat → Int32) (a : Nat) : Nat → Nat
  | 0 => 0
  | i + 1 => wtS s a i + if bt a i = true then (s (28 + i)).toNatClampNeg else 0
theorem wtS_le {m : Nat} {s : Nat → Int32} {a : Nat} (hV : VB s m) : ∀ i, i ≤ m → wtS s a i ≤ 9 * i
  | 0, _ => Nat.le_refl _
  | i + 1, h => by
    have h1 := wtS_le (a := a) hV i (by omega)
    obtain ⟨k, v, pc, wt, vk, vv, vp, vw, k6, v9, p1, p30, w9⟩ := hV i (by omega)
    simp only [wtS, vw, nI_clamp (show wt < 2 ^ 31 by omega)]
    split <;> omega
def brS (s : Nat → Int32) (L : List Cls) (a w : Nat) (m : Nat) : Bool := (List.range m).any (fun p => bt a p && brr (fcs s p a w) L)
theorem brS_s (s : Nat → Int32) (L : List Cls) (a w i : Nat) : brS s L a w (i + 1) = (brS s L a w i || (bt a i && brr (fcs s i a w) L)) := any_s _ _
def cnS (s : Nat → Int32) (m : Nat) (L : List Cls) (be he a w : Nat) : Bool := decide (1 ≤ pop a ∧ pop a ≤ be) && !brS s L a w m && decide (wtS s a m ≤ he)
/-- what the model tells of bears, heavy, oil -/
def tlM (s : Nat → Int32) (be he oi : Nat) : Prop := be ≤ 99 ∧ he ≤ 99 ∧ oi ≤ 99 ∧ ((s 5 = (-1) ∧ be = 2 ∧ he = 99 ∧ oi = 0) ∨ ∃ act, act < 5 ∧ s 5 = nI act ∧ s (170 + act) = nI be ∧ s (175 + act) = nI he ∧ s (180 + act) = nI oi)
theorem tell_0 {n be he oi : Nat} {s : Nat → Int32} {I : Nat → Int32} {R : Nat → Nat → Int32} (h : tlM s be he oi) (hs : R 1 = s) : p_Md_tellsOf n 170 2 I R = some (nI be) ∧ p_Md_tellsOf n 175 99 I R = some (nI he) ∧ p_Md_tellsOf n 180 0 I R = some (nI oi) := by
  unfold p_Md_tellsOf
  rw [hs]
  rcases h.2.2.2 with ⟨b1, rfl, rfl, rfl⟩ | ⟨act, b1, b2, b3, b4, b5⟩
  · rw [b1]; exact ⟨rfl, rfl, rfl⟩
  · have hne : ¬ nI act = (-1) := fun e => nI_pos (n := act) (by omega) (by rw [e]; decide)
    rw [b2, if_neg hne, if_neg hne, if_neg hne, show (170 : Int32) + nI act = nI (170 + act) from nI_add 170 act, show (175 : Int32) + nI act = nI (175 + act) from nI_add 175 act, show (180 : Int32) + nI act = nI (180 + act) from nI_add 180 act, if_pos (nI_in (by omega) (by omega)), if_pos (nI_in (by omega) (by omega)), if_pos (nI_in (by omega) (by omega)), nI_clamp (by omega), nI_clamp (by omega), nI_clamp (by omega), b3, b4, b5]
    exact ⟨rfl, rfl, rfl⟩
theorem told_M {n be he oi : Nat} {s : Nat → Int32} {I : Nat → Int32} {R : Nat → Nat → Int32} (h : tlM s be he oi) (hs : R 1 = s) : p_Md_told n 0 I R = some (nI be) ∧ p_Md_told n 1 I R = some (nI he) ∧ p_Md_told n 2 I R = some (nI oi) := by
  obtain ⟨h1, h2, h3⟩ := tell_0 (n := n) (I := I) h hs
  refine ⟨?_, ?_, ?_⟩
  · unfold p_Md_told
    rw [if_pos rfl, h1]; rfl
  · unfold p_Md_told
    rw [if_neg (by decide), if_pos rfl, h2]; rfl
  · unfold p_Md_told
    rw [if_neg (by decide), if_neg (by decide), if_pos rfl, h3]; rfl
theorem canM {n m a w be he oi : Nat} {s : Nat → Int32} {L : List Cls} {I : Nat → Int32} {R : Nat → Nat → Int32} (hn : 1000 ≤ n) (hL : NgM s L) (hT : tlM s be he oi) (hs : R 1 = s) (hm : m ≤ 6) (h0 : s 0 = nI m) (hV : VB s m) (ha : a < 2 ^ m) :
    ∃ I' R', p_Md_canGo n (nI a) (nI w) I R = some (b2i (cnS s m L be he a w), I', R') ∧ Lk I I' R R' := by
  have ha6 := isS_lt hm ha
  have hp6 := q_pop_le a ha6
  have hb9 := hT.1
  have hin : p_Md_in n (nI (pop a)) 1 (nI be) = some (b2i (decide (1 ≤ pop a ∧ pop a ≤ be))) := by
    by_cases h : 1 ≤ pop a ∧ pop a ≤ be
    · rw [q_in1 (show (1 : Int32) ≤ nI (pop a) from nI_le (a := 1) h.1 (by omega)) (nI_le h.2 (by omega)), decide_eq_true h]; rfl
    · rw [q_in0 (show ¬ ((1 : Int32) ≤ nI (pop a) ∧ nI (pop a) ≤ nI be) from fun q => h ⟨(nI_leI (a := 1) (by omega) (by omega)).mp q.1, (nI_leI (by omega) (by omega)).mp q.2⟩), decide_eq_false h]; rfl
  obtain ⟨z, h1, h2, h3, h4⟩ := q_lp (fun k i (u : Int32 × Int32 × (Nat → Int32) × (Nat → Nat → Int32)) => l_Md_canGo_20 n (nI a) (nI w) k u.1 u.2.1 (nI i) u.2.2.1 u.2.2.2) m (fun i u => u.1 = nI (wtS s a i) ∧ u.2.1 = b2i (decide (1 ≤ pop a ∧ pop a ≤ be) && !brS s L a w i) ∧ Lk I u.2.2.1 R u.2.2.2) (fun z => z.1 = nI (wtS s a m) ∧ z.2.1 = b2i (decide (1 ≤ pop a ∧ pop a ≤ be) && !brS s L a w m) ∧ Lk I z.2.2.1 R z.2.2.2) (fun k u hu => by
      obtain ⟨u1, u2, u3, u4⟩ := u
      dsimp only at hu
      refine ⟨(u1, u2, u3, u4), ?_, hu⟩
      show l_Md_canGo_20 n (nI a) (nI w) (k + 1) u1 u2 (nI m) u3 u4 = _
      have e : u4 1 0 = nI m := by rw [hu.2.2.2 1 (by decide) (by decide), hs, h0]
      rw [l_Md_canGo_20, e, if_pos (Int32.le_refl _)]) (fun k i u hi hu => by
      obtain ⟨u1, u2, u3, u4⟩ := u
      dsimp only at hu
      obtain ⟨hu1, hu2, hu3⟩ := hu
      have hu1' : u1 = nI (wtS s a i) := hu1
      have hu2' : u2 = b2i (decide (1 ≤ pop a ∧ pop a ≤ be) && !brS s L a w i) := hu2
      have hu3' : Lk I u3 R u4 := hu3
      have es : u4 1 = s := by rw [hu3'.2 1 (by decide) (by decide), hs]
      have e : u4 1 0 = nI m := by rw [es, h0]
      show ∃ a' : Int32 × Int32 × (Nat → Int32) × (Nat → Nat → Int32), l_Md_canGo_20 n (nI a) (nI w) (k + 1) u1 u2 (nI i) u3 u4 = l_Md_canGo_20 n (nI a) (nI w) k a'.1 a'.2.1 (nI (i + 1)) a'.2.2.1 a'.2.2.2 ∧ _
      rw [l_Md_canGo_20, e, if_neg (nI_ge hi (by omega))]
      by_cases hbt : bt a i = true
      · obtain ⟨I2, R2, t1, t2, t3, t4, t5⟩ := looksM (w := w) (I := u3) hn hL es (show i < 6 by omega) ha6
        rw [if_pos ((q_bit1 a ha6 i (by omega)).mpr hbt), show (28 : Int32) + nI i = nI (28 + i) from nI_add 28 i, if_pos (nI_in (by omega) (by omega)), t1, nI_clamp (n := 28 + i) (by omega), es]
        obtain ⟨kk, v, pc, wt, vk, vv, vp, vw, k6, v9, p1, p30, w9⟩ := hV i hi
        refine ⟨(nI (wtS s a (i + 1)), b2i (decide (1 ≤ pop a ∧ pop a ≤ be) && !brS s L a w (i + 1)), I2, R2), ?_, rfl, rfl, hu3'.trans ⟨t4, t5⟩⟩
        show ((if u2 = 0 then some 0 else (if I2 12 = 0 then some 1 else some 0) : Option Int32).bind fun x17 => some (u1 + s (28 + i), x17, I2, R2)).bind _ = _
        have ex : (if u2 = 0 then some 0 else (if I2 12 = 0 then some 1 else some 0) : Option Int32) = some (b2i (decide (1 ≤ pop a ∧ pop a ≤ be) && !brS s L a w (i + 1))) := by
          rw [hu2', t3, brS_s, hbt, Bool.true_and]
          cases decide (1 ≤ pop a ∧ pop a ≤ be) <;> cases brS s L a w i <;> cases brr (fcs s i a w) L <;> rfl
        have ew : u1 + s (28 + i) = nI (wtS s a (i + 1)) := by
          rw [hu1', vw, nI_add]
          simp only [wtS, hbt, if_true, vw, nI_clamp (show wt < 2 ^ 31 by omega)]
        rw [ex, ew, ← nI_1]
        rfl
      · rw [if_neg (fun q => hbt ((q_bit1 a ha6 i (by omega)).mp q))]
        refine ⟨(u1, u2, u3, u4), ?_, ?_, ?_, hu3'⟩
        · rw [← nI_1]; rfl
        · simp only [wtS, if_neg hbt, Nat.add_zero]; exact hu1'
        · simp only [brS_s, Bool.eq_false_iff.mpr hbt, Bool.false_and, Bool.or_false]; exact hu2') 0 (0, b2i (decide (1 ≤ pop a ∧ pop a ≤ be)), I, R) n (by omega) (by omega) ⟨rfl, by simp [brS], Lk.rfl' I R⟩
  obtain ⟨z1, z2, z3, z4⟩ := z
  have h4' : Lk I z3 R z4 := h4
  refine ⟨z3, z4, ?_, h4'⟩
  unfold p_Md_canGo
  have h1' : l_Md_canGo_20 n (nI a) (nI w) n 0 (b2i (decide (1 ≤ pop a ∧ pop a ≤ be))) 0 I R = some (z1, z2, z3, z4) := h1
  have h2' : z1 = nI (wtS s a m) := h2
  have h3' : z2 = b2i (decide (1 ≤ pop a ∧ pop a ≤ be) && !brS s L a w m) := h3
  have es : z4 1 = s := by rw [h4'.2 1 (by decide) (by decide), hs]
  have hwt := wtS_le (a := a) hV m (Nat.le_refl _)
  have hh9 := hT.2.1
  rw [q_popM n a (by omega) ha6, (told_M (I := I) hT hs).1]
  show (p_Md_in n (nI (pop a)) 1 (nI be)).bind _ = _
  rw [hin]
  show (l_Md_canGo_20 n (nI a) (nI w) n 0 (b2i (decide (1 ≤ pop a ∧ pop a ≤ be))) 0 I R).bind _ = _
  rw [h1']
  show ((if z2 = 0 then some 0 else (p_Md_told n 1 z3 z4).bind fun x25 => (if x25 < z1 then some 0 else some 1) : Option Int32)).bind _ = _
  rw [(told_M (I := z3) hT es).2.1, h3', h2']
  have ex : (if b2i (decide (1 ≤ pop a ∧ pop a ≤ be) && !brS s L a w m) = 0 then some 0 else (some (nI he)).bind fun x25 => (if x25 < nI (wtS s a m) then some 0 else some 1) : Option Int32) = some (b2i (cnS s m L be he a w)) := by
    unfold cnS
    cases (decide (1 ≤ pop a ∧ pop a ≤ be) && !brS s L a w m)
    · rfl
    · show (if nI he < nI (wtS s a m) then some 0 else some 1 : Option Int32) = _
      by_cases h : wtS s a m ≤ he
      · rw [if_neg (nI_nlt h (by omega)), decide_eq_true h]; rfl
      · rw [if_pos (nI_lt (by omega) (by omega)), decide_eq_false h]; rfl
  rw [ex]
  show (if isZ (b2i (cnS s m L be he a w)) then _ else none) = _
  rw [if_pos (b2i_z _)]
