/-! ===== what one takes ===== -/
theorem i_add {x y : Int32} {a b : Int} (hx : x.toInt = a) (hy : y.toInt = b) (h1 : -1000000000 ≤ a) (h2 : a ≤ 1000000000) (h3 : -1000000000 ≤ b) (h4 : b ≤ 1000000000) : (x + y).toInt = a + b := by
  rw [Int32.toInt_add, hx, hy]
  exact Int.bmod_eq_of_le (by omega) (by omega)
theorem i_sub {x y : Int32} {a b : Int} (hx : x.toInt = a) (hy : y.toInt = b) (h1 : -1000000000 ≤ a) (h2 : a ≤ 1000000000) (h3 : -1000000000 ≤ b) (h4 : b ≤ 1000000000) : (x - y).toInt = a - b := by
  rw [Int32.toInt_sub, hx, hy]
  exact Int.bmod_eq_of_le (by omega) (by omega)
theorem i_nI {x : Int32} {z : Int} (h : x.toInt = z) (h0 : 0 ≤ z) : x = nI z.toNat := by
  have hb := x.toInt_lt
  rw [h] at hb
  apply Int32.toInt_inj.mp
  rw [nI_toInt (by omega), h]
  omega
theorem fin1 {x : Int32} {z : Int} (h : x.toInt = z) : (if 1 ≤ x then some x else some 1 : Option Int32) = some (nI (max 1 z.toNat)) := by
  have e1 : (1 : Int32).toInt = 1 := by decide
  by_cases h1 : 1 ≤ x
  · rw [if_pos h1]
    have h2 := Int32.le_iff_toInt_le.mp h1
    rw [e1, h] at h2
    rw [i_nI h (by omega)]
    congr 2; omega
  · rw [if_neg h1]
    have h2 : ¬ (1 : Int32).toInt ≤ x.toInt := fun q => h1 (Int32.le_iff_toInt_le.mpr q)
    rw [e1, h] at h2
    rw [show max 1 z.toNat = 1 by omega]; rfl
theorem fin2 {x : Int32} {z : Int} (h : x.toInt = z) : jmax 1 x = nI (max 1 z.toNat) := by
  have e1 : (1 : Int32).toInt = 1 := by decide
  unfold jmax
  by_cases h1 : 1 < x
  · rw [if_pos h1]
    have h2 := Int32.lt_iff_toInt_lt.mp h1
    rw [e1, h] at h2
    rw [i_nI h (by omega)]
    congr 1; omega
  · rw [if_neg h1]
    have h2 : ¬ (1 : Int32).toInt < x.toInt := fun q => h1 (Int32.lt_iff_toInt_lt.mpr q)
    rw [e1, h] at h2
    rw [show max 1 z.toNat = 1 by omega]; rfl
theorem any_s (f : Nat → Bool) (i : Nat) : (List.range (i + 1)).any f = ((List.range i).any f || f i) := by
  simp [List.range_succ]
def hvq (s : Nat → Int32) (p a q : Nat) : Bool := decide (q ≠ p) && (bt a q && decide (s (28 + p) < s (28 + q)))
def ldq (s : Nat → Int32) (p a q : Nat) : Bool := decide (q ≠ p) && (bt a q && decide (s (10 + q) = 4))
def hv (s : Nat → Int32) (p a i : Nat) : Bool := (List.range i).any (hvq s p a)
def ld (s : Nat → Int32) (p a i : Nat) : Bool := (List.range i).any (ldq s p a)
theorem hv_s (s : Nat → Int32) (p a i : Nat) : hv s p a (i + 1) = (hv s p a i || hvq s p a i) := any_s _ _
theorem ld_s (s : Nat → Int32) (p a i : Nat) : ld s p a (i + 1) = (ld s p a i || ldq s p a i) := any_s _ _
/-- the people's numbers are as they may be -/
def VB (s : Nat → Int32) (m : Nat) : Prop := ∀ i, i < m → ∃ k v pc wt : Nat, s (10 + i) = nI k ∧ s (16 + i) = nI v ∧ s (22 + i) = nI pc ∧ s (28 + i) = nI wt ∧ k ≤ 6 ∧ v ≤ 9 ∧ 1 ≤ pc ∧ pc ≤ 30 ∧ wt ≤ 9
theorem takes54 {n m p a : Nat} {v3 v4 v5 v6 : Int32} {s : Nat → Int32} {I : Nat → Int32} {R : Nat → Nat → Int32} (hn : 20 ≤ n) (hs : R 1 = s) (hm : m ≤ 6) (h0 : s 0 = nI m) (hp : p < m) (ha : a < 64) : l_Md_takes_54 n (nI p) (nI a) v3 v4 v5 v6 I R n 0 0 0 = some (b2i (hv s p a m), b2i (ld s p a m)) := by
  have hR0 : R 1 0 = nI m := by rw [hs, h0]
  have e := q_lpf (fun k i (v : Int32 × Int32) => l_Md_takes_54 n (nI p) (nI a) v3 v4 v5 v6 I R k v.1 v.2 (nI i)) m (fun i => (b2i (hv s p a i), b2i (ld s p a i))) (b2i (hv s p a m), b2i (ld s p a m)) (fun k => by
      show (if R 1 0 ≤ nI m then some _ else _) = _
      rw [if_pos (by rw [hR0]; exact Int32.le_refl _)]) (fun k i hi => by
      have x8 : (if b2i (hv s p a i) = 0 then (if nI i = nI p then some 0 else (p_Md_goes n (nI i) (nI a) I R).bind fun x10 => (if x10 = 0 then some 0 else if ix (28 + nI i) 890 then if ix (28 + nI p) 890 then (if (R 1 (28 + nI i).toNatClampNeg) ≤ (R 1 (28 + nI p).toNatClampNeg) then some 0 else some 1) else none else none)) else some 1 : Option Int32) = some (b2i (hv s p a (i + 1))) := by
        rw [hv_s, q_goes hm hR0 hi ha, show (28 : Int32) + nI i = nI (28 + i) from nI_add 28 i, show (28 : Int32) + nI p = nI (28 + p) from nI_add 28 p, if_pos (show ix (nI (28 + i)) 890 from nI_in (by omega) (by omega)), if_pos (show ix (nI (28 + p)) 890 from nI_in (by omega) (by omega)), nI_clamp (by omega), nI_clamp (by omega), hs]
        cases hv s p a i
        · rw [if_pos (show b2i false = 0 from rfl), Bool.false_or]
          unfold hvq
          by_cases e1 : i = p
          · rw [if_pos (by rw [e1]), decide_eq_false (by simpa using e1)]; rfl
          · rw [if_neg (fun q => e1 ((nI_eq (by omega) (by omega)).mp q)), decide_eq_true e1, Bool.true_and]
            cases bt a i
            · rfl
            · show (if (b2i true) = 0 then some 0 else _) = _
              rw [if_neg (by decide), Bool.true_and]
              by_cases e2 : s (28 + i) ≤ s (28 + p)
              · rw [if_pos e2, decide_eq_false (Int32.not_lt.mpr e2)]; rfl
              · rw [if_neg e2, decide_eq_true (Int32.not_le.mp e2)]; rfl
        · rfl
      have x14 : (if b2i (ld s p a i) = 0 then (if nI i = nI p then some 0 else (p_Md_goes n (nI i) (nI a) I R).bind fun x16 => (if x16 = 0 then some 0 else if ix (10 + nI i) 890 then (if (R 1 (10 + nI i).toNatClampNeg) = 4 then some 1 else some 0) else none)) else some 1 : Option Int32) = some (b2i (ld s p a (i + 1))) := by
        rw [ld_s, q_goes hm hR0 hi ha, show (10 : Int32) + nI i = nI (10 + i) from nI_add 10 i, if_pos (show ix (nI (10 + i)) 890 from nI_in (by omega) (by omega)), nI_clamp (by omega), hs]
        cases ld s p a i
        · rw [if_pos (show b2i false = 0 from rfl), Bool.false_or]
          unfold ldq
          by_cases e1 : i = p
          · rw [if_pos (by rw [e1]), decide_eq_false (by simpa using e1)]; rfl
          · rw [if_neg (fun q => e1 ((nI_eq (by omega) (by omega)).mp q)), decide_eq_true e1, Bool.true_and]
            cases bt a i
            · rfl
            · show (if (b2i true) = 0 then some 0 else _) = _
              rw [if_neg (by decide), Bool.true_and]
              by_cases e2 : s (10 + i) = 4
              · rw [if_pos e2, decide_eq_true e2]; rfl
              · rw [if_neg e2, decide_eq_false e2]; rfl
        · rfl
      show (if R 1 0 ≤ nI i then _ else ((if b2i (hv s p a i) = 0 then (if nI i = nI p then some 0 else (p_Md_goes n (nI i) (nI a) I R).bind fun x10 => (if x10 = 0 then some 0 else if ix (28 + nI i) 890 then if ix (28 + nI p) 890 then (if (R 1 (28 + nI i).toNatClampNeg) ≤ (R 1 (28 + nI p).toNatClampNeg) then some 0 else some 1) else none else none)) else some 1 : Option Int32)).bind fun x8 => ((if b2i (ld s p a i) = 0 then (if nI i = nI p then some 0 else (p_Md_goes n (nI i) (nI a) I R).bind fun x16 => (if x16 = 0 then some 0 else if ix (10 + nI i) 890 then (if (R 1 (10 + nI i).toNatClampNeg) = 4 then some 1 else some 0) else none)) else some 1 : Option Int32)).bind fun x14 => l_Md_takes_54 n (nI p) (nI a) v3 v4 v5 v6 I R k x8 x14 (nI i + 1)) = l_Md_takes_54 n (nI p) (nI a) v3 v4 v5 v6 I R k (b2i (hv s p a (i + 1))) (b2i (ld s p a (i + 1))) (nI (i + 1))
      rw [if_neg (by rw [hR0]; exact nI_ge hi (by omega)), x8, x14, nI_1]
      rfl) 0 n (by omega) (by omega)
  exact e
/-- minutes: k kind, v, t pace and slow, h a heavier one goes, l led, al alone, nb one beside, b1 back -/
def tkN (k v t : Nat) (h l al nb b1 : Bool) : Nat :=
  max 1 ((if k = 1 ∨ k = 4 then (if al = true then t - v else t) else if k = 2 then (if h = true then t else t + v) else if k = 3 then (if nb = true then t else t + v) else if k = 5 then (if al = true then (if h = true then t else t + v) else ((if h = true then t else t + v) + 1) / 2) else if k = 6 then (if nb = true then t else t + v) + (if b1 = true then v else 0) else t) - (if l = true then 1 else 0))
theorem tkN_b {k v t : Nat} {h l al nb b1 : Bool} (hv : v ≤ 9) : 1 ≤ tkN k v t h l al nb b1 ∧ tkN k v t h l al nb b1 ≤ t + 19 := by
  unfold tkN
  repeat' split
  all_goals omega
def nbr (p a : Nat) : Bool := (decide (1 ≤ p) && bt a (p - 1)) || bt a (p + 1)
def tkS (s : Nat → Int32) (m : Nat) (L : List Cls) (p a w : Nat) : Nat := tkN (s (10 + p)).toNatClampNeg (s (16 + p)).toNatClampNeg ((s (22 + p)).toNatClampNeg + slw (fcs s p a w) L) (hv s p a m) (ld s p a m) (decide (pop a = 1)) (nbr p a) (decide (w = 1))
