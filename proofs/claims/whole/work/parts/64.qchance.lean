/-! ===== step: chance ===== -/
def OKl (E : PE) (f : Option (Int64 × CU)) (g : Option (Int64 × MU)) : Prop := ∃ (r : Int64) (F G : Nat → Nat → Int32) (P : Nat → Nat → Option Nat) (N : Nat → Nat) (I : Nat → Int32) (R : Nat → Nat → Int32), f = some (r, F, G, P, N) ∧ g = some (r, I, R) ∧ RL E F G P N I R
theorem low_s {n k a b : Nat} {v0 v2 : Int64} {v4 : Int32} (ha : a < 2 ^ 31) (hb : b < 2 ^ 31) : l_Md_lowest_6 n v0 v2 v4 (k + 1) (lN a) (lN b) = if b = 0 then some (lN a) else l_Md_lowest_6 n v0 v2 v4 k (lN b) (lN (a % b)) := by
  rw [l_Md_lowest_6]
  have hz : lN b = 0 ↔ b = 0 := pk_lEQ (b := 0) (by omega) (by omega)
  by_cases h : b = 0
  · rw [if_pos ((lg_cmp_eq _ _).mpr (hz.mpr h)), if_pos h]
  · have h1 : ¬ lN b = 0 := fun q => h (hz.mp q)
    rw [if_neg (fun q => h1 ((lg_cmp_eq _ _).mp q)), if_pos h1, if_neg h, pk_lRem (by omega) (by omega) (by omega)]
theorem low_g {n : Nat} {v0 v2 : Int64} {v4 : Int32} : ∀ (k a b : Nat), a < 2 ^ 31 → b < k → b < 2 ^ 31 → l_Md_lowest_6 n v0 v2 v4 k (lN a) (lN b) = some (lN (Nat.gcd a b))
  | 0, a, b, _, h, _ => by omega
  | k + 1, a, b, ha, hb, hb2 => by
    rw [low_s ha hb2]
    by_cases h : b = 0
    · rw [if_pos h, h, Nat.gcd_zero_right]
    · have hm : a % b < b := Nat.mod_lt _ (by omega)
      rw [if_neg h, low_g k b (a % b) hb2 (by omega) (by omega), Nat.gcd_comm a b, Nat.gcd_rec b a, Nat.gcd_comm]
theorem sh_g {n x : Nat} (hn : 1000 ≤ n) (hx : x < 2 ^ 30) : p_LB_sharedWithTen n (nI x) = some (nI (Nat.gcd x 10)) := by
  have hg : Nat.gcd x 10 = Nat.gcd (x % 10) 10 := by
    rw [Nat.gcd_comm x 10, Nat.gcd_rec 10 x]
  have st : ∀ (k d : Nat), 2 ≤ d → d ≤ 10 → l_LB_sharedWithTen_3 n (nI x) (k + 1) (nI d) = if 10 % d = 0 ∧ x % d = 0 then some (nI d) else l_LB_sharedWithTen_3 n (nI x) k (nI (d - 1)) := by
    intro k d h1 h2
    have hd : ¬ nI d = 0 := nI_ne0 (by omega) (by omega)
    have e1 : (10 : Int32) - 10 / nI d * nI d = nI (10 % d) := pk_rem (a := 10) (by omega) (by omega) (by omega)
    have e2 : nI x - nI x / nI d * nI d = nI (x % d) := pk_rem (by omega) (by omega) (by omega)
    have m1 : 10 % d < d := Nat.mod_lt _ (by omega)
    have m2 : x % d < d := Nat.mod_lt _ (by omega)
    have e3 : nI d + (-1) = nI (d - 1) := by
      obtain ⟨c, rfl⟩ : ∃ c, d = c + 1 := ⟨d - 1, by omega⟩
      exact pk_m1 c
    rw [l_LB_sharedWithTen_3, if_neg (show ¬ nI d ≤ 1 from nI_ge (a := 1) (by omega) (by omega)), if_pos hd, if_pos hd, e1, e2, e3]
    by_cases h3 : 10 % d = 0
    · rw [if_pos (show nI (10 % d) = 0 by rw [h3]; rfl)]
      by_cases h4 : x % d = 0
      · rw [if_pos (show nI (x % d) = 0 by rw [h4]; rfl), if_pos ⟨h3, h4⟩]
      · rw [if_neg (show ¬ nI (x % d) = 0 from nI_ne0 (by omega) (by omega)), if_neg (fun q => h4 q.2)]
    · rw [if_neg (show ¬ nI (10 % d) = 0 from nI_ne0 (by omega) (by omega)), if_neg (fun q => h3 q.1)]
  have s1 : ∀ k, l_LB_sharedWithTen_3 n (nI x) (k + 1) (nI 1) = some 1 := fun k => by
    rw [l_LB_sharedWithTen_3, if_pos (show nI 1 ≤ 1 by decide)]
  unfold p_LB_sharedWithTen
  obtain ⟨k, rfl⟩ : ∃ k, n = k + 1 + 1 + 1 + 1 + 1 + 1 + 1 + 1 + 1 + 1 := ⟨n - 10, by omega⟩
  rw [show (10 : Int32) = nI 10 from rfl, st _ 10 (by omega) (by omega), st _ 9 (by omega) (by omega), st _ 8 (by omega) (by omega), st _ 7 (by omega) (by omega), st _ 6 (by omega) (by omega), st _ 5 (by omega) (by omega), st _ 4 (by omega) (by omega), st _ 3 (by omega) (by omega), st _ 2 (by omega) (by omega), s1, hg]
  have h5 : x % 5 = x % 10 % 5 := by omega
  have h2 : x % 2 = x % 10 % 2 := by omega
  have hlt : x % 10 < 10 := Nat.mod_lt _ (by omega)
  rw [h5, h2]
  generalize x % 10 = y at hlt ⊢
  rcases (by omega : y = 0 ∨ y = 1 ∨ y = 2 ∨ y = 3 ∨ y = 4 ∨ y = 5 ∨ y = 6 ∨ y = 7 ∨ y = 8 ∨ y = 9) with rfl | rfl | rfl | rfl | rfl | rfl | rfl | rfl | rfl | rfl <;> simp <;> decide
def mxO (f : Nat → Nat) (a p : Nat) : Nat → Nat
  | 0 => 0
  | i + 1 => if i ≠ p ∧ bt a i = true then max (mxO f a p i) (f i) else mxO f a p i
theorem mxO_le {f : Nat → Nat} {a p B : Nat} : ∀ m, (∀ i, i < m → f i ≤ B) → mxO f a p m ≤ B
  | 0, _ => Nat.zero_le _
  | m + 1, h => by
    have h1 := mxO_le (f := f) (a := a) (p := p) m (fun i hi => h i (by omega))
    have h2 := h m (by omega)
    simp only [mxO]
    split <;> omega
theorem mxO_B {f g : Nat → Nat} {a p : Nat} (hb : bt a p = true) (hg : ∀ i, i ≠ p → g i = f i) : ∀ m, mxB g a m = if p < m then max (mxO f a p m) (g p) else mxO f a p m
  | 0 => by simp [mxB, mxO]
  | m + 1 => by
    have ih := mxO_B hb hg m
    simp only [mxB, mxO, ih]
    by_cases e : m = p
    · subst e
      rw [if_neg (Nat.lt_irrefl _), if_pos hb, if_pos (by omega), if_neg (fun q => q.1 rfl)]
    · rw [hg m e]
      by_cases hlt : p < m
      · rw [if_pos hlt, if_pos (show p < m + 1 by omega)]
        by_cases hm : bt a m = true
        · rw [if_pos hm, if_pos ⟨e, hm⟩]; omega
        · rw [if_neg hm, if_neg (fun q => hm q.2)]; omega
      · rw [if_neg hlt, if_neg (show ¬ p < m + 1 by omega)]
        by_cases hm : bt a m = true
        · rw [if_pos hm, if_pos ⟨e, hm⟩]
        · rw [if_neg hm, if_neg (fun q => hm q.2)]; omega
theorem othersC {n m p a w be he : Nat} {E : PE} {F G : Nat → Nat → Int32} {P : Nat → Nat → Option Nat} {N : Nat → Nat} {s : Nat → Int32} {L : List Cls} (hV : GoV E F P N s m L be he) (hB : VB s m) (hm : m ≤ 6) (ha : a < 2 ^ m) (hp : p < m) (hw : w ≤ 1) (hn : 1000 ≤ n) :
    ∃ G', p_Go_takenByOthers n E (nI p) (nI a) (nI w) F G P N = some (nI (mxO (fun q => tkS s m L q a w) a p m), F, G', P, N) ∧ ∀ k, k ≠ 17 → G' k = G k := by
  have ha6 := isS_lt hm ha
  have hok := hV.2.2.2.2.2.1.1
  have hl := hV.2.2.2.2.2.1.2.1
  obtain ⟨z, h1, G', h2, h3⟩ := q_lp (fun k i (u : Int32 × (Nat → Nat → Int32)) => l_Go_takenByOthers_6 n E (nI p) (nI a) (nI w) k u.1 (nI i) F u.2 P N) m (fun i u => u.1 = nI (mxO (fun q => tkS s m L q a w) a p i) ∧ ∀ k, k ≠ 17 → u.2 k = G k) (fun z => ∃ G', z = (nI (mxO (fun q => tkS s m L q a w) a p m), F, G', P, N) ∧ ∀ k, k ≠ 17 → G' k = G k) (fun k u hu => by
      obtain ⟨u1, u2⟩ := u
      dsimp only at hu
      refine ⟨(u1, F, u2, P, N), ?_, u2, by rw [hu.1], hu.2⟩
      show l_Go_takenByOthers_6 n E (nI p) (nI a) (nI w) (k + 1) u1 (nI m) F u2 P N = _
      rw [l_Go_takenByOthers_6, hV.1, if_pos (Int32.le_refl _)]) (fun k i u hi hu => by
      obtain ⟨u1, u2⟩ := u
      dsimp only at hu
      show ∃ a' : Int32 × (Nat → Nat → Int32), l_Go_takenByOthers_6 n E (nI p) (nI a) (nI w) (k + 1) u1 (nI i) F u2 P N = l_Go_takenByOthers_6 n E (nI p) (nI a) (nI w) k a'.1 (nI (i + 1)) F a'.2 P N ∧ _
      have b0 : mxO (fun q => tkS s m L q a w) a p i ≤ 1050 := mxO_le i (fun j hj => (tkS_b hB (by omega) hok hl).2)
      have c0 := (tkS_b (a := a) (w := w) hB hi hok hl).2
      rw [l_Go_takenByOthers_6, hV.1, if_neg (nI_ge hi (by omega)), nI_1]
      by_cases e : i = p
      · rw [if_pos (show nI i = nI p by rw [e])]
        refine ⟨(u1, u2), rfl, ?_, hu.2⟩
        simp only [mxO]
        rw [if_neg (fun q => q.1 e)]; exact hu.1
      · rw [if_neg (show ¬ nI i = nI p from fun q => e ((nI_eq (by omega) (by omega)).mp q))]
        by_cases hbt : bt a i = true
        · obtain ⟨G1, t1, t2⟩ := takenByC (G := u2) (w := w) hV hB hm ha hi hbt hw hn
          rw [if_pos ((q_bit1 a ha6 i (by omega)).mpr hbt), t1]
          refine ⟨(nI (mxO (fun q => tkS s m L q a w) a p (i + 1)), G1), ?_, rfl, fun k hk => by show G1 k = _; rw [t2 k hk]; exact hu.2 k hk⟩
          simp only [mxO]
          rw [if_pos ⟨e, hbt⟩, ← jmx (by omega) (by omega), ← hu.1]
          rfl
        · rw [if_neg (fun q => hbt ((q_bit1 a ha6 i (by omega)).mp q))]
          refine ⟨(u1, u2), rfl, ?_, hu.2⟩
          simp only [mxO]
          rw [if_neg (fun q => hbt q.2)]; exact hu.1) 0 (0, G) n (by omega) (by omega) ⟨rfl, fun _ _ => rfl⟩
  refine ⟨G', ?_, h3⟩
  unfold p_Go_takenByOthers
  rw [show l_Go_takenByOthers_6 n E (nI p) (nI a) (nI w) n 0 0 F G P N = some z from h1, h2]
  rfl
def tk1 (f : Nat → Nat) (p q : Nat) : Nat := if q = p then max 1 (f q - 1) else f q
theorem lessM {n m p a be he oi : Nat} {v3 v4 : Int32} {s : Nat → Int32} {L : List Cls} {I : Nat → Int32} {R : Nat → Nat → Int32} (hn : 1000 ≤ n) (hL : NgM s L) (hT : tlM s be he oi) (hs : R 1 = s) (hm : m ≤ 6) (h0 : s 0 = nI m) (hV : VB s m) (hp : p < m) (ha : a < 2 ^ m) :
    ∃ I' R', l_Md_chance_54 n (nI p) (nI a) v3 v4 n 0 0 I R = some (nI (mxB (tk1 (fun q => tkS s m L q a 0) p) a m), I', R') ∧ Lk I I' R R' := by
  have ha6 := isS_lt hm ha
  have hb1 : ∀ i, i < m → tk1 (fun q => tkS s m L q a 0) p i ≤ 1050 := fun i hi => by
    have := (tkS_b (a := a) (w := 0) hV hi hL.1 hL.2.1).2
    unfold tk1
    dsimp only
    split <;> omega
  obtain ⟨z, h1, h2, h3⟩ := q_lp (fun k i (u : Int32 × (Nat → Int32) × (Nat → Nat → Int32)) => l_Md_chance_54 n (nI p) (nI a) v3 v4 k u.1 (nI i) u.2.1 u.2.2) m (fun i u => u.1 = nI (mxB (tk1 (fun q => tkS s m L q a 0) p) a i) ∧ Lk I u.2.1 R u.2.2) (fun z => z.1 = nI (mxB (tk1 (fun q => tkS s m L q a 0) p) a m) ∧ Lk I z.2.1 R z.2.2) (fun k u hu => by
      obtain ⟨u1, u2, u3⟩ := u
      dsimp only at hu
      refine ⟨(u1, u2, u3), ?_, hu⟩
      show l_Md_chance_54 n (nI p) (nI a) v3 v4 (k + 1) u1 (nI m) u2 u3 = _
      have e : u3 1 0 = nI m := by rw [hu.2.2 1 (by decide) (by decide), hs, h0]
      rw [l_Md_chance_54, e, if_pos (Int32.le_refl _)]) (fun k i u hi hu => by
      obtain ⟨u1, u2, u3⟩ := u
      dsimp only at hu
      obtain ⟨hu1, hu2⟩ := hu
      have es : u3 1 = s := by rw [hu2.2 1 (by decide) (by decide), hs]
      have e : u3 1 0 = nI m := by rw [es, h0]
      have hb : mxB (tk1 (fun q => tkS s m L q a 0) p) a i ≤ 1050 := mxB_le i (fun j hj => hb1 j (by omega))
      have ht := tkS_b (a := a) (w := 0) hV hi hL.1 hL.2.1
      have hbi := hb1 i hi
      show ∃ a' : Int32 × (Nat → Int32) × (Nat → Nat → Int32), l_Md_chance_54 n (nI p) (nI a) v3 v4 (k + 1) u1 (nI i) u2 u3 = l_Md_chance_54 n (nI p) (nI a) v3 v4 k a'.1 (nI (i + 1)) a'.2.1 a'.2.2 ∧ _
      rw [l_Md_chance_54, e, if_neg (nI_ge hi (by omega)), nI_1]
      have fin : ∀ (x y : Nat) (I2 : Nat → Int32) (R2 : Nat → Nat → Int32), x ≤ 1050 → y ≤ 1050 → y = (if bt a i = true then tk1 (fun q => tkS s m L q a 0) p i else 0) → y = x - (if i = p ∧ 1 < x then 1 else 0) → Lk u2 I2 u3 R2 → ∃ a' : Int32 × (Nat → Int32) × (Nat → Nat → Int32), ((if nI i = nI p then (if nI x ≤ 1 then some 0 else some 1) else some 0 : Option Int32).bind fun x18 => (if (nI x - x18) ≤ u1 then some u1 else some (nI x - x18) : Option Int32).bind fun x20 => l_Md_chance_54 n (nI p) (nI a) v3 v4 k x20 (nI (i + 1)) I2 R2) = l_Md_chance_54 n (nI p) (nI a) v3 v4 k a'.1 (nI (i + 1)) a'.2.1 a'.2.2 ∧ a'.1 = nI (mxB (tk1 (fun q => tkS s m L q a 0) p) a (i + 1)) ∧ Lk I a'.2.1 R a'.2.2 := by
        intro x y I2 R2 hx hy ey ex hl
        refine ⟨(nI (mxB (tk1 (fun q => tkS s m L q a 0) p) a (i + 1)), I2, R2), ?_, rfl, hu2.trans hl⟩
        have e18 : (if nI i = nI p then (if nI x ≤ 1 then some 0 else some 1) else some 0 : Option Int32) = some (nI (if i = p ∧ 1 < x then 1 else 0)) := by
          by_cases hip : i = p
          · rw [if_pos (show nI i = nI p by rw [hip])]
            by_cases hx1 : 1 < x
            · rw [if_neg (show ¬ nI x ≤ 1 from nI_ge (a := 1) hx1 (by omega)), if_pos ⟨hip, hx1⟩]; rfl
            · rw [if_pos (show nI x ≤ 1 from nI_le (b := 1) (by omega) (by omega)), if_neg (fun q => hx1 q.2)]; rfl
          · rw [if_neg (show ¬ nI i = nI p from fun q => hip ((nI_eq (by omega) (by omega)).mp q)), if_neg (fun q => hip q.1)]; rfl
        have hsb : (if i = p ∧ 1 < x then 1 else 0) ≤ x := by split <;> omega
        rw [e18, Option.bind_some, pk_sub hsb, ← ex]
        simp only [mxB, ← ey]
        rw [hu1]
        by_cases hc : y ≤ mxB (tk1 (fun q => tkS s m L q a 0) p) a i
        · rw [if_pos (nI_le hc (by omega)), Nat.max_eq_left hc]; rfl
        · rw [if_neg (nI_ge (by omega) (by omega)), Nat.max_eq_right (by omega)]; rfl
      by_cases hbt : bt a i = true
      · obtain ⟨I2, R2, t1, t2⟩ := takesM (w := 0) (I := u2) hn hL es hm h0 hV hi ha (by omega)
        rw [if_pos ((q_bit1 a ha6 i (by omega)).mpr hbt), show p_Md_takes n (nI i) (nI a) 0 u2 u3 = some (nI (tkS s m L i a 0), I2, R2) from t1]
        refine fin (tkS s m L i a 0) (tk1 (fun q => tkS s m L q a 0) p i) I2 R2 ht.2 hbi (by rw [if_pos hbt]) ?_ t2
        unfold tk1
        dsimp only
        by_cases hip : i = p
        · rw [if_pos hip]
          by_cases hx1 : 1 < tkS s m L i a 0
          · rw [if_pos ⟨hip, hx1⟩]; omega
          · rw [if_neg (fun q => hx1 q.2)]; omega
        · rw [if_neg hip, if_neg (fun q => hip q.1)]; rfl
      · rw [if_neg (fun q => hbt ((q_bit1 a ha6 i (by omega)).mp q))]
        exact fin 0 0 u2 u3 (by omega) (by omega) (by rw [if_neg hbt]) (by rw [if_neg (fun q => absurd q.2 (by omega))]) (Lk.rfl' _ _)) 0 (0, I, R) n (by omega) (by omega) ⟨rfl, Lk.rfl' I R⟩
  obtain ⟨z1, z2, z3⟩ := z
  refine ⟨z2, z3, ?_, h3⟩
  rw [show l_Md_chance_54 n (nI p) (nI a) v3 v4 n 0 0 I R = some (z1, z2, z3) from h1, show z1 = _ from h2]
theorem st_chance {n : Nat} {v1 v2 v3 v4 : Int32} {E : PE} {F G : Nat → Nat → Int32} {P : Nat → Nat → Option Nat} {N : Nat → Nat} {I : Nat → Int32} {R : Nat → Nat → Int32} (hn : 300000000 ≤ n) (h : RL E F G P N I R) : OKl E (p_LB_chance n E v1 v2 v3 v4 F G P N) (p_Md_chance n v1 v2 v3 v4 I R) := by
  have h' := h
  obtain ⟨m, k, r, b, t, w, a, L, be, he, oi, h⟩ := h
  obtain ⟨hm, h0, hB, hL, hTl⟩ := SR_go h.1
  have h64 := q_p2 m (by omega)
  obtain ⟨-, ⟨q0, f5⟩, -⟩ := h.1.1
  have no : OKl E (some ((-9223372036854775808), F, G, P, N)) (some ((-9223372036854775808), I, R)) := ⟨_, F, G, P, N, I, R, rfl, rfl, h'⟩
  unfold p_LB_chance p_Md_chance
  rcases walkC (n := n) (v := v1) (G := G) (N := N) (I := I) hm f5 h0 h.1.2.1 with ⟨p, q, hp, rfl, h1, h2, h3⟩ | ⟨h1, h2⟩
  · rw [h1, h3, Option.bind_some, Option.bind_some, if_neg (show ¬ (1 : Int32) = 0 by decide)]
    dsimp only [Option.elim]
    by_cases hS : isS m v2
    · rw [isS_c1 hm f5 hS, isS_1 hm h0 hS, Option.bind_some, Option.bind_some, if_neg (show ¬ (1 : Int32) = 0 by decide), if_neg (show ¬ (1 : Int32) = 0 by decide)]
      obtain ⟨g, hg, rfl⟩ := hS
      have hg6 := isS_lt hm hg
      cases hb : bt g p
      · rw [if_pos ((q_bit0 g hg6 p (by omega)).mpr hb), if_pos ((q_bit0 g hg6 p (by omega)).mpr hb)]
        exact no
      · have hbn : ¬ ((nI g >>> (nI p &&& 31)) &&& 1) = 0 := fun q => by rw [(q_bit0 g hg6 p (by omega)).mp q] at hb; exact absurd hb (by decide)
        rw [if_neg hbn, if_neg hbn]
        rcases inR (n := n) (x := v3) (c := 10) (C := 10) (by omega) rfl with ⟨i1, i2⟩ | ⟨i1, i2, i3, i4⟩ | ⟨x, hx, rfl, i2, i3, i4, i5⟩
        · rw [if_pos i1, i2]; exact no
        · rw [if_neg i1, if_pos i2, i4]; exact no
        · rw [if_neg i3, if_neg i5, i2, Option.bind_some, if_neg (show ¬ (1 : Int32) = 0 by decide)]
          rcases inR (n := n) (x := v4) (c := 1) (C := 1) (by omega) rfl with ⟨j1, j2⟩ | ⟨j1, j2, j3, j4⟩ | ⟨y, hy, rfl, j2, j3, j4, j5⟩
          · rw [if_pos j1, j2]; exact no
          · rw [if_neg j1, if_neg j3, j4]; exact no
          · rw [if_neg j3, if_pos j4, j2, Option.bind_some, if_neg (show ¬ (1 : Int32) = 0 by decide)]
            obtain ⟨F1, G1, P1, N1, a1, a2, a3, a4, a5, a6, a7⟩ := refreshC (n := n) h (by omega)
            obtain ⟨G2, t1, t2⟩ := takenByC (G := G1) (w := 0) a4 hB hm hg hp hb (by omega) (by omega : 1000 ≤ n)
            obtain ⟨G3, o1, o2⟩ := othersC (G := G2) (w := 0) a4 hB hm hg hp (by omega) (by omega : 1000 ≤ n)
            obtain ⟨I1, R1, l1, l2⟩ := lessM (n := n) (v3 := nI x) (v4 := nI y) (I := I) (by omega) hL hTl rfl hm h0 hB hp hg
            have es : R1 1 = R 1 := l2.2 1 (by decide) (by decide)
            obtain ⟨I2, R2, m1, m2⟩ := minutesM (n := n) (w := 0) (I := I1) (by omega) hL es hm h0 hB hg (by omega)
            have own := tkS_b (a := g) (w := 0) hB hp hL.1 hL.2.1
            have oth : mxO (fun q => tkS (R 1) m L q g 0) g p m ≤ 1050 := mxO_le m (fun j hj => (tkS_b hB hj hL.1 hL.2.1).2)
            have eL : mxB (tk1 (fun q => tkS (R 1) m L q g 0) p) g m = max (mxO (fun q => tkS (R 1) m L q g 0) g p m) (max 1 (tkS (R 1) m L p g 0 - 1)) := by
              rw [mxO_B (f := fun q => tkS (R 1) m L q g 0) (g := tk1 (fun q => tkS (R 1) m L q g 0) p) hb (fun i hi => if_neg hi) m, if_pos hp]
              unfold tk1
              rw [if_pos rfl]
            have eM : mnS (R 1) m L g 0 = max (mxO (fun q => tkS (R 1) m L q g 0) g p m) (tkS (R 1) m L p g 0) := by
              unfold mnS
              rw [mxO_B (f := fun q => tkS (R 1) m L q g 0) hb (fun i hi => rfl) m, if_pos hp]
            rw [a1, Option.bind_some]
            dsimp only
            rw [show p_Go_takenBy n E (nI p) (nI g) 0 F1 G1 P1 N1 = some (nI (tkS (R 1) m L p g 0), F1, G2, P1, N1) from t1, Option.bind_some]
            dsimp only
            rw [show p_Go_takenByOthers n E (nI p) (nI g) 0 F1 G2 P1 N1 = some (nI (mxO (fun q => tkS (R 1) m L q g 0) g p m), F1, G3, P1, N1) from o1, Option.bind_some, l1, Option.bind_some]
            dsimp only
            rw [show p_Md_minutesOf n (nI g) 0 I1 R1 = some (nI (mnS (R 1) m L g 0), I2, R2) from m1, Option.bind_some]
            dsimp only
            have c1 : (nI (tkS (R 1) m L p g 0) - 1 : Int32) = nI (tkS (R 1) m L p g 0 - 1) := pk_sub (b := 1) own.1
            have c2 : jmax 1 (nI (tkS (R 1) m L p g 0 - 1)) = nI (max 1 (tkS (R 1) m L p g 0 - 1)) := jmx (a := 1) (by omega) (by omega)
            have c3 : (10 : Int32) - nI x = nI (10 - x) := pk_sub (a := 10) hx
            rw [c1, c2, jmx (by omega) (by omega), jmx (by omega) (by omega), c3, ← eL, ← eM, pk_mul, pk_mul, nI_add]
            have hL1 : mxB (tk1 (fun q => tkS (R 1) m L q g 0) p) g m ≤ 1050 := by rw [eL]; omega
            have hM1 : mnS (R 1) m L g 0 ≤ 1050 := by rw [eM]; omega
            have hX : x * mxB (tk1 (fun q => tkS (R 1) m L q g 0) p) g m + (10 - x) * mnS (R 1) m L g 0 < 2 ^ 20 := by
              have b1 : x * mxB (tk1 (fun q => tkS (R 1) m L q g 0) p) g m ≤ 10 * 1050 := Nat.mul_le_mul hx hL1
              have b2 : (10 - x) * mnS (R 1) m L g 0 ≤ 10 * 1050 := Nat.mul_le_mul (by omega) hM1
              omega
            generalize x * mxB (tk1 (fun q => tkS (R 1) m L q g 0) p) g m + (10 - x) * mnS (R 1) m L g 0 = X at hX ⊢
            have hg0 : 0 < Nat.gcd X 10 := Nat.gcd_pos_of_pos_right _ (by omega)
            have hg10 : Nat.gcd X 10 ≤ 10 := Nat.gcd_le_right _ (by omega)
            rw [sh_g (by omega) (by omega), Option.bind_some, if_pos (nI_ne0 hg0 (by omega)), if_pos (nI_ne0 hg0 (by omega)), pk_div (by omega) hg0 (by omega), show (10 : Int32) / nI (Nat.gcd X 10) = nI (10 / Nat.gcd X 10) from pk_div (a := 10) (by omega) hg0 (by omega)]
            have hd1 : X / Nat.gcd X 10 ≤ X := Nat.div_le_self _ _
            have hd2 : 10 / Nat.gcd X 10 ≤ 10 := Nat.div_le_self _ _
            rw [nI_l (by omega), nI_l (by omega), nI_l (by omega)]
            unfold p_Md_lowest
            rw [show (10 : Int64) = lN 10 from rfl, low_g n X 10 (by omega) (by omega) (by omega), Option.bind_some]
            have hgn : ¬ lN (Nat.gcd X 10) = 0 := fun q => by
              have := (pk_lEQ (a := Nat.gcd X 10) (b := 0) (by omega) (by omega)).mp q
              omega
            refine ⟨if nI y = 0 then lN (X / Nat.gcd X 10) else lN (10 / Nat.gcd X 10), F1, G3, P1, N1, I2, R2, ?_, ?_, (RLp_Lw (RLp_G a2 (fun k k17 _ _ => by rw [o2 k k17, t2 k k17])) (l2.trans m2).w).rl⟩
            · by_cases hy0 : nI y = 0
              · rw [if_pos hy0, if_pos hy0]; rfl
              · rw [if_neg hy0, if_neg hy0]; rfl
            · by_cases hy0 : nI y = 0
              · rw [if_pos hy0, if_pos hy0, Option.bind_some, if_pos hgn, pk_lDiv (by omega) hg0 (by omega)]; rfl
              · rw [if_neg hy0, if_neg hy0, Option.bind_some, if_pos hgn, pk_lDiv (by omega) hg0 (by omega)]; rfl
    · rw [isS_c0 hm f5 hS, isS_0 hm h0 hS]
      exact no
  · rw [h1, h2]
    exact no
