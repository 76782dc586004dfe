/-! ===== toward a set; first ===== -/
def vG (m st : Nat) (cn : Nat → Nat → Bool) (k g : Nat) : Prop := (1 ≤ g ∧ g < 2 ^ m ∧ cn g (k / 64) = true ∧ g &&& st = 0) ∧ hr g (k % 64) (k / 64) = true
def toK (k g : Nat) : Nat := (k % 64 ^^^ g) + 64 * (1 - k / 64)
def Wd (R : Nat → Nat → Int32) (W : Nat → Nat) : Prop := ∀ k, k < 128 → R 16 k = nI (W k) ∧ W k ≤ 1000000
theorem toK_lt {k g : Nat} (hk : k < 128) (hg : g < 64) : toK k g < 128 := by
  have := q_x64 (show k % 64 < 64 by omega) hg
  unfold toK; omega
theorem isCl21 {n m st k0 : Nat} {v1 : Int32} {cn : Nat → Nat → Bool} {mn : Nat → Nat → Nat} {W : Nat → Nat} {I : Nat → Int32} {R : Nat → Nat → Int32} (hn : 1000 ≤ n) (hm : m ≤ 6) (h0 : R 1 0 = nI m) (hk0 : k0 < 128) (hc : csOK R m st cn mn) (hmn : ∀ g w, mn g w ≤ 1050) (hW : Wd R W) :
    ∃ x, l_Md_isCloser_21 n v1 (nI (k0 % 64)) (nI (k0 / 64)) I R n (nI (W k0)) 1 = some (nI x) ∧ x ≤ W k0 ∧ (∀ g, vG m st cn k0 g → x ≤ mn g (k0 / 64) + W (toK k0 g)) ∧ (x = W k0 ∨ ∃ g, vG m st cn k0 g ∧ x = mn g (k0 / 64) + W (toK k0 g)) := by
  have h64 := q_p2 m (by omega)
  obtain ⟨z, h1, x, h2, h3, h4, h5⟩ := q_lp (fun k i (u : Int32) => l_Md_isCloser_21 n v1 (nI (k0 % 64)) (nI (k0 / 64)) I R k u (nI (i + 1))) (2 ^ m - 1) (fun i u => ∃ x, u = nI x ∧ x ≤ W k0 ∧ (∀ g, g ≤ i → vG m st cn k0 g → x ≤ mn g (k0 / 64) + W (toK k0 g)) ∧ (x = W k0 ∨ ∃ g, vG m st cn k0 g ∧ x = mn g (k0 / 64) + W (toK k0 g))) (fun z => ∃ x, z = nI x ∧ x ≤ W k0 ∧ (∀ g, vG m st cn k0 g → x ≤ mn g (k0 / 64) + W (toK k0 g)) ∧ (x = W k0 ∨ ∃ g, vG m st cn k0 g ∧ x = mn g (k0 / 64) + W (toK k0 g))) (fun k u hu => by
      obtain ⟨x, r1, r2, r3, r4⟩ := hu
      refine ⟨u, ?_, x, r1, r2, fun g hg => r3 g (by have := hg.1.2.1; omega) hg, r4⟩
      show l_Md_isCloser_21 n v1 (nI (k0 % 64)) (nI (k0 / 64)) I R (k + 1) u (nI (2 ^ m - 1 + 1)) = _
      rw [l_Md_isCloser_21, q_Mall hm h0, Option.bind_some, if_pos (nI_lt (by omega) (by omega))]) (fun k i u hi hu => by
      obtain ⟨x, rfl, r2, r3, r4⟩ := hu
      have hg6 : i + 1 < 64 := by omega
      have hto := toK_lt hk0 hg6
      obtain ⟨t1, t2⟩ := hW (toK k0 (i + 1)) hto
      have hwk := (hW k0 hk0).2
      have hmb := hmn (i + 1) (k0 / 64)
      show ∃ a', l_Md_isCloser_21 n v1 (nI (k0 % 64)) (nI (k0 / 64)) I R (k + 1) (nI x) (nI (i + 1)) = l_Md_isCloser_21 n v1 (nI (k0 % 64)) (nI (k0 / 64)) I R k a' (nI (i + 1 + 1)) ∧ _
      have e64 : (64 : Int32) * nI (k0 / 64) + nI (i + 1) = nI (64 * (k0 / 64) + (i + 1)) := by rw [show (64 : Int32) * nI (k0 / 64) = nI (64 * (k0 / 64)) from pk_mul 64 (k0 / 64), nI_add]
      have hix : ix (nI (64 * (k0 / 64) + (i + 1))) 128 := nI_in (by omega) (by omega)
      have hix2 : ix (nI (toK k0 (i + 1))) 128 := nI_in hto (by omega)
      rw [l_Md_isCloser_21, q_Mall hm h0, Option.bind_some, if_neg (nI_nlt (by omega) (by omega)), e64, if_pos hix, q_to (show k0 % 64 < 64 by omega) hg6 (show k0 / 64 ≤ 1 by omega), show (k0 % 64 ^^^ (i + 1)) + 64 * (1 - k0 / 64) = toK k0 (i + 1) from rfl, if_pos hix2]
      simp only [nI_clamp (show 64 * (k0 / 64) + (i + 1) < 2 ^ 31 by omega), nI_clamp (show toK k0 (i + 1) < 2 ^ 31 by omega)]
      rw [hc (i + 1) (k0 / 64) hg6 (by omega), hereM hg6 (by omega) (by omega), t1, nI_1]
      unfold cO
      have keep : ¬ vG m st cn k0 (i + 1) → ∃ a', l_Md_isCloser_21 n v1 (nI (k0 % 64)) (nI (k0 / 64)) I R k (nI x) (nI (i + 1 + 1)) = l_Md_isCloser_21 n v1 (nI (k0 % 64)) (nI (k0 / 64)) I R k a' (nI (i + 1 + 1)) ∧ ∃ x, a' = nI x ∧ x ≤ W k0 ∧ (∀ g, g ≤ i + 1 → vG m st cn k0 g → x ≤ mn g (k0 / 64) + W (toK k0 g)) ∧ (x = W k0 ∨ ∃ g, vG m st cn k0 g ∧ x = mn g (k0 / 64) + W (toK k0 g)) := by
        intro hno
        refine ⟨nI x, rfl, x, rfl, r2, fun g hg hv => ?_, r4⟩
        by_cases e : g = i + 1
        · rw [e] at hv; exact absurd hv hno
        · exact r3 g (by omega) hv
      by_cases hv : 1 ≤ i + 1 ∧ i + 1 < 2 ^ m ∧ cn (i + 1) (k0 / 64) = true ∧ (i + 1) &&& st = 0
      · rw [if_pos hv, if_neg (show ¬ nI (mn (i + 1) (k0 / 64)) = (-1) from fun e => nI_pos (n := mn (i + 1) (k0 / 64)) (by omega) (by rw [e]; decide)), Option.bind_some]
        cases hh : hr (i + 1) (k0 % 64) (k0 / 64)
        · rw [if_pos (show b2i false = 0 from rfl)]
          exact keep (fun q => by have q2 := q.2; rw [hh] at q2; exact absurd q2 (by decide))
        · have hvg : vG m st cn k0 (i + 1) := ⟨hv, hh⟩
          rw [if_neg (show ¬ b2i true = 0 by decide), nI_add]
          by_cases hle : x ≤ mn (i + 1) (k0 / 64) + W (toK k0 (i + 1))
          · rw [if_pos (nI_le hle (by omega))]
            refine ⟨nI x, rfl, x, rfl, r2, fun g hg hv => ?_, r4⟩
            by_cases e : g = i + 1
            · rw [e]; exact hle
            · exact r3 g (by omega) hv
          · rw [if_neg (nI_ge (by omega) (by omega))]
            refine ⟨nI (mn (i + 1) (k0 / 64) + W (toK k0 (i + 1))), rfl, _, rfl, by omega, fun g hg hv => ?_, Or.inr ⟨i + 1, hvg, rfl⟩⟩
            by_cases e : g = i + 1
            · rw [e]; exact Nat.le_refl _
            · have := r3 g (by omega) hv; omega
      · rw [if_neg hv, if_pos rfl]
        exact keep (fun q => hv q.1)) 0 (nI (W k0)) n (by omega) (by omega) ⟨W k0, rfl, Nat.le_refl _, fun g hg hv => by have := hv.1.1; omega, Or.inl rfl⟩
  exact ⟨x, by rw [show l_Md_isCloser_21 n v1 (nI (k0 % 64)) (nI (k0 / 64)) I R n (nI (W k0)) 1 = some z from h1, h2], h3, h4, h5⟩
/-- what stands is the cost of a walk to all of g over -/
def GdT (m st : Nat) (cn : Nat → Nat → Bool) (mn : Nat → Nat → Nat) (g : Nat) (W : Nat → Nat) : Prop := ∀ k, k < 128 → k % 64 < 2 ^ m → (W k = 1000000 ∨ ∃ i q, wk (CE m st cn mn 0) i (pk2 k) q (W k) ∧ q / 2 &&& g = g) ∧ (k % 64 &&& g = g → W k = 0)
theorem vG_CE {m st k g : Nat} {cn : Nat → Nat → Bool} {ct : Nat → Nat → Nat} (hm : m ≤ 6) (hk : k < 128) (ha : k % 64 < 2 ^ m) (h : vG m st cn k g) : CE m st cn ct 0 (pk2 k) (pk2 (toK k g)) (ct g (k / 64)) := by
  obtain ⟨⟨g1, g2, g3, g4⟩, g5⟩ := h
  have h64 := q_p2 m (by omega)
  have := q_x64 (show k % 64 < 64 by omega) (show g < 64 by omega)
  unfold pk2
  have e1 : (2 * (k % 64) + k / 64) / 2 = k % 64 := by omega
  have e2 : (2 * (k % 64) + k / 64) % 2 = k / 64 := by omega
  refine ⟨by omega, g, g1, g2, by rw [e1, e2]; exact g5, g4, by rw [Nat.add_zero, e2]; exact g3, ?_, by rw [Nat.add_zero, e2]⟩
  rw [e1, e2]
  unfold toK
  omega
def Cl1 (m st : Nat) (cn : Nat → Nat → Bool) (mn : Nat → Nat → Nat) (W : Nat → Nat) (k : Nat) : Prop := ∀ g, vG m st cn k g → W k ≤ mn g (k / 64) + W (toK k g)
theorem isClM {n m st k0 gg : Nat} {cn : Nat → Nat → Bool} {mn : Nat → Nat → Nat} {W : Nat → Nat} {I : Nat → Int32} {R : Nat → Nat → Int32} (hn : 1000 ≤ n) (hm : m ≤ 6) (h0 : R 1 0 = nI m) (hk0 : k0 < 128) (ham : k0 % 64 < 2 ^ m) (hc : csOK R m st cn mn) (hmn : ∀ g w, mn g w ≤ 1050) (hW : Wd R W) (hG : GdT m st cn mn gg W) :
    ∃ (an : Bool) (W' : Nat → Nat) (R' : Nat → Nat → Int32), p_Md_isCloser n (nI k0) I R = some (b2i an, I, R') ∧ (∀ q, q ≠ 16 → R' q = R q) ∧ Wd R' W' ∧ GdT m st cn mn gg W' ∧ Pr W (fun _ => 0) an W' (fun _ => 0) ∧ (an = false → Cl1 m st cn mn W k0) := by
  have h64 := q_p2 m (by omega)
  have e1 : nI k0 - nI k0 / (64 : Int32) * 64 = nI (k0 % 64) := pk_rem (d := 64) (by omega) (by omega) (by omega)
  have e2 : nI k0 / (64 : Int32) = nI (k0 / 64) := pk_div (d := 64) (by omega) (by omega) (by omega)
  obtain ⟨x, x1, x2, x3, x4⟩ := isCl21 (v1 := nI k0) (I := I) hn hm h0 hk0 hc hmn hW
  have hwk := (hW k0 hk0)
  have hx : ix (nI k0) 128 := nI_in hk0 (by omega)
  refine ⟨decide (x < W k0), ud W k0 x, upR R 16 k0 (nI x), ?_, fun q hq => q_upN hq, fun k hk => ?_, fun k hk hka => ?_, ⟨fun k hk => ?_, fun h => ?_, fun h k hk => ?_⟩, fun h g hg => ?_⟩
  · unfold p_Md_isCloser
    rw [if_pos hx, e1, e2]
    simp only [nI_clamp (show k0 < 2 ^ 31 by omega)]
    rw [hwk.1, x1, Option.bind_some, if_pos hx, q_min (by omega) (by omega), Option.bind_some, if_pos hx, if_pos (b2i_z _)]
  · by_cases e : k = k0
    · subst e; rw [q_upV, ud_s]; exact ⟨rfl, by omega⟩
    · rw [q_upE (fun q => e q.2), ud_n e]; exact hW k hk
  · by_cases e : k = k0
    · subst e
      rw [ud_s]
      refine ⟨?_, fun ht => ?_⟩
      · rcases x4 with h | ⟨g, g1, g2⟩
        · rw [h]; exact (hG k hk hka).1
        · have hto := toK_lt hk (show g < 64 by have := g1.1.2.1; omega)
          have hed := vG_CE (ct := mn) hm hk hka g1
          have hq := CE_q hed
          have htm : toK k g % 64 < 2 ^ m := by
            unfold pk2 at hq; omega
          rcases (hG _ hto htm).1 with h | ⟨i, q, i1, i2⟩
          · exact Or.inl (by omega)
          · exact Or.inr ⟨i + 1, q, ⟨_, _, _, hed, i1, g2⟩, i2⟩
      · have := (hG k hk hka).2 ht
        omega
    · rw [ud_n e]; exact hG k hk hka
  · by_cases e : k = k0
    · subst e; rw [ud_s]; exact ⟨x2, Nat.le_refl _⟩
    · rw [ud_n e]; exact ⟨Nat.le_refl _, Nat.le_refl _⟩
  · rw [decide_eq_true_eq] at h
    exact ⟨k0, hk0, Or.inl (by rw [ud_s]; exact h)⟩
  · rw [decide_eq_false_iff_not] at h
    by_cases e : k = k0
    · subst e; rw [ud_s]; exact ⟨by omega, rfl⟩
    · rw [ud_n e]; exact ⟨rfl, rfl⟩
  · rw [decide_eq_false_iff_not] at h
    have := x3 g hg
    omega
theorem Cl1_cg {m st k : Nat} {cn : Nat → Nat → Bool} {mn : Nat → Nat → Nat} {W W' : Nat → Nat} (hm : m ≤ 6) (hk : k < 128) (h : ∀ j, j < 128 → W' j = W j) (hc : Cl1 m st cn mn W k) : Cl1 m st cn mn W' k := by
  intro g hg
  have h64 := q_p2 m (by omega)
  rw [h k hk, h _ (toK_lt hk (by have := hg.1.2.1; omega))]
  exact hc g hg
theorem roundT {n m st gg : Nat} {cn : Nat → Nat → Bool} {mn : Nat → Nat → Nat} {W0 : Nat → Nat} {I : Nat → Int32} {R : Nat → Nat → Int32} (hn : 1000 ≤ n) (hm : m ≤ 6) (h0 : R 1 0 = nI m) (hc : csOK R m st cn mn) (hmn : ∀ g w, mn g w ≤ 1050) (hW : Wd R W0) (hG : GdT m st cn mn gg W0) :
    ∃ (an : Bool) (W' : Nat → Nat) (R' : Nat → Nat → Int32), l_Md_looksToward_47 n n 0 0 I R = some (b2i an, I, R') ∧ (∀ q, q ≠ 16 → R' q = R q) ∧ Wd R' W' ∧ GdT m st cn mn gg W' ∧ Pr W0 (fun _ => 0) an W' (fun _ => 0) ∧ (an = false → ∀ k, k < 128 → k % 64 < 2 ^ m → Cl1 m st cn mn W0 k) := by
  have h64 := q_p2 m (by omega)
  obtain ⟨z, h1, h2⟩ := q_lp (fun k i (u : Int32 × (Nat → Int32) × (Nat → Nat → Int32)) => l_Md_looksToward_47 n k u.1 (nI i) u.2.1 u.2.2) 128 (fun i u => ∃ (an : Bool) (W' : Nat → Nat), u.1 = b2i an ∧ u.2.1 = I ∧ (∀ q, q ≠ 16 → u.2.2 q = R q) ∧ Wd u.2.2 W' ∧ GdT m st cn mn gg W' ∧ Pr W0 (fun _ => 0) an W' (fun _ => 0) ∧ (an = false → ∀ k, k < i → k % 64 < 2 ^ m → Cl1 m st cn mn W0 k)) (fun z => ∃ (an : Bool) (W' : Nat → Nat), z.1 = b2i an ∧ z.2.1 = I ∧ (∀ q, q ≠ 16 → z.2.2 q = R q) ∧ Wd z.2.2 W' ∧ GdT m st cn mn gg W' ∧ Pr W0 (fun _ => 0) an W' (fun _ => 0) ∧ (an = false → ∀ k, k < 128 → k % 64 < 2 ^ m → Cl1 m st cn mn W0 k)) (fun k u hu => by
      obtain ⟨u1, u2, u3⟩ := u
      refine ⟨(u1, u2, u3), ?_, hu⟩
      show l_Md_looksToward_47 n (k + 1) u1 (nI 128) u2 u3 = _
      rw [l_Md_looksToward_47, if_pos (show (128 : Int32) ≤ nI 128 by decide)]) (fun k i u hi hu => by
      obtain ⟨u1, u2, u3⟩ := u
      dsimp only at hu
      obtain ⟨an, W, r1, r2, r3, r4, r5, r6, r7⟩ := hu
      have e0 : u3 1 0 = nI m := by rw [r3 1 (by decide), h0]
      have hc' : csOK u3 m st cn mn := fun g w hg hw => by rw [r3 13 (by decide)]; exact hc g w hg hw
      have e1 : nI i - nI i / (64 : Int32) * 64 = nI (i % 64) := pk_rem (d := 64) (by omega) (by omega) (by omega)
      show ∃ a' : Int32 × (Nat → Int32) × (Nat → Nat → Int32), l_Md_looksToward_47 n (k + 1) u1 (nI i) u2 u3 = l_Md_looksToward_47 n k a'.1 (nI (i + 1)) a'.2.1 a'.2.2 ∧ _
      rw [l_Md_looksToward_47, if_neg (show ¬ (128 : Int32) ≤ nI i from nI_ge (b := 128) hi (by omega)), q_Mall hm e0, Option.bind_some, e1, nI_1, r1, r2]
      by_cases ham : i % 64 < 2 ^ m
      · obtain ⟨an2, W2, R2, c1, c2, c3, c4, c5, c6⟩ := isClM (I := I) hn hm e0 hi ham hc' hmn r4 r5
        rw [if_neg (nI_nlt (by omega) (by omega)), c1]
        refine ⟨(b2i (an || an2), I, R2), ?_, an || an2, W2, rfl, rfl, fun q hq => by show R2 q = _; rw [c2 q hq]; exact r3 q hq, c3, c4, ?_, fun h j hj hjm => ?_⟩
        · cases an <;> cases an2 <;> rfl
        · exact r6.trans c5
        · simp only [Bool.or_eq_false_iff] at h
          by_cases ej : j = i
          · subst ej
            exact Cl1_cg hm hi (fun x hx => ((r6.2.2 h.1 x hx).1).symm) (c6 h.2)
          · exact r7 h.1 j (by omega) hjm
      · rw [if_pos (nI_lt (by omega) (by omega))]
        refine ⟨(b2i an, I, u3), ?_, an, W, rfl, rfl, r3, r4, r5, r6, fun h j hj hjm => ?_⟩
        · cases an <;> rfl
        · by_cases ej : j = i
          · subst ej; exact absurd hjm ham
          · exact r7 h j (by omega) hjm) 0 (0, I, R) n (by omega) (by omega) ⟨false, W0, rfl, rfl, fun _ _ => rfl, hW, hG, Pr.rfl' _ _, fun _ k hk => by omega⟩
  obtain ⟨z1, z2, z3⟩ := z
  obtain ⟨an, W', r1, r2, r3, r4, r5, r6, r7⟩ := h2
  refine ⟨an, W', z3, ?_, r3, r4, r5, r6, r7⟩
  have h1' : l_Md_looksToward_47 n n 0 0 I R = some (z1, z2, z3) := h1
  have r1' : z1 = b2i an := r1
  have r2' : z2 = I := r2
  rw [h1', r1', r2']
theorem whileT {n m st gg : Nat} {cn : Nat → Nat → Bool} {mn : Nat → Nat → Nat} {I : Nat → Int32} (hn : 1000 ≤ n) (hm : m ≤ 6) (hmn : ∀ g w, mn g w ≤ 1050) :
    ∀ (B : Nat) (W0 : Nat → Nat) (R : Nat → Nat → Int32) (k : Nat), sm W0 128 < B → B < k → R 1 0 = nI m → csOK R m st cn mn → Wd R W0 → GdT m st cn mn gg W0 →
    ∃ (W : Nat → Nat) (R' : Nat → Nat → Int32), l_Md_looksToward_39 n k 1 I R = some (I, R') ∧ (∀ q, q ≠ 16 → R' q = R q) ∧ Wd R' W ∧ GdT m st cn mn gg W ∧ (∀ k, k < 128 → k % 64 < 2 ^ m → Cl1 m st cn mn W k) := by
  intro B
  induction B with
  | zero => intro W0 R k h; omega
  | succ B ih =>
    intro W0 R k hB hk h0 hc hW hG
    have h64 := q_p2 m (by omega)
    obtain ⟨k, rfl⟩ : ∃ k', k = k' + 1 := ⟨k - 1, by omega⟩
    obtain ⟨an, W, R', c1, c2, c3, c4, c5, c6⟩ := roundT (I := I) hn hm h0 hc hmn hW hG
    rw [l_Md_looksToward_39, if_neg (by decide), c1]
    show ∃ (W : Nat → Nat) (R2 : Nat → Nat → Int32), l_Md_looksToward_39 n k (b2i an) I R' = some (I, R2) ∧ _
    cases an
    · obtain ⟨k, rfl⟩ : ∃ k', k = k' + 1 := ⟨k - 1, by omega⟩
      rw [l_Md_looksToward_39, if_pos (show b2i false = 0 from rfl)]
      refine ⟨W, R', rfl, c2, c3, c4, fun j hj hjm => ?_⟩
      exact Cl1_cg hm hj (fun x hx => (c5.2.2 rfl x hx).1) (c6 rfl j hj hjm)
    · obtain ⟨j, hj, hlt⟩ := c5.2.1 rfl
      have hs : sm W 128 < sm W0 128 := sm_lt 128 (fun k hk => (c5.1 k hk).1) ⟨j, hj, by
        rcases hlt with h | h
        · exact h
        · exact absurd h (Nat.lt_irrefl _)⟩
      obtain ⟨W2, R2, d1, d2, d3, d4, d5⟩ := ih W R' k (by omega) (by omega) (by rw [c2 1 (by decide), h0]) (fun g w hg hw => by rw [c2 13 (by decide)]; exact hc g w hg hw) c3 c4
      exact ⟨W2, R2, d1, fun q hq => by rw [d2 q hq, c2 q hq], d3, d4, d5⟩
theorem towM {n m st gg : Nat} {cn : Nat → Nat → Bool} {mn : Nat → Nat → Nat} {I : Nat → Int32} {R : Nat → Nat → Int32} (hn : 300000000 ≤ n) (hm : m ≤ 6) (hg : gg < 64) (h0 : R 1 0 = nI m) (hc : csOK R m st cn mn) (hmn : ∀ g w, mn g w ≤ 1050) :
    ∃ (W : Nat → Nat) (R' : Nat → Nat → Int32), p_Md_looksToward n (nI gg) I R = some (I, R') ∧ (∀ q, q ≠ 16 → R' q = R q) ∧ Wd R' W ∧ ∀ p, p < 2 * 2 ^ m → LeS (CE m st cn mn 0) p gg (W (kp p)) := by
  have h64 := q_p2 m (by omega)
  obtain ⟨z, h1, R1, h2, h3, h4⟩ := q_lp (fun k i (u : Nat → Nat → Int32) => l_Md_looksToward_2 n (nI gg) k (nI i) I u) 128 (fun i u => (∀ q, q ≠ 16 → u q = R q) ∧ ∀ k, k < i → u 16 k = nI (if k % 64 &&& gg = gg then 0 else 1000000)) (fun z => ∃ R', z = (I, R') ∧ (∀ q, q ≠ 16 → R' q = R q) ∧ ∀ k, k < 128 → R' 16 k = nI (if k % 64 &&& gg = gg then 0 else 1000000)) (fun k u hu => by
      refine ⟨(I, u), ?_, u, rfl, hu⟩
      show l_Md_looksToward_2 n (nI gg) (k + 1) (nI 128) I u = _
      rw [l_Md_looksToward_2, if_pos (show (128 : Int32) ≤ nI 128 by decide)]) (fun k i u hi hu => by
      have hx : ix (nI i) 128 := nI_in hi (by omega)
      have e1 : nI i - nI i / (64 : Int32) * 64 = nI (i % 64) := pk_rem (d := 64) (by omega) (by omega) (by omega)
      have hand : i % 64 &&& gg < 64 := Nat.lt_of_le_of_lt Nat.and_le_right hg
      show ∃ a', l_Md_looksToward_2 n (nI gg) (k + 1) (nI i) I u = l_Md_looksToward_2 n (nI gg) k (nI (i + 1)) I a' ∧ _
      have e2 : (if nI (i % 64 &&& gg) = nI gg then some 0 else some 1000000 : Option Int32) = some (nI (if i % 64 &&& gg = gg then 0 else 1000000)) := by
        by_cases h : i % 64 &&& gg = gg
        · rw [if_pos (show nI (i % 64 &&& gg) = nI gg by rw [h]), if_pos h]; rfl
        · rw [if_neg (show ¬ nI (i % 64 &&& gg) = nI gg from fun q => h ((nI_eq (by omega) (by omega)).mp q)), if_neg h]; rfl
      rw [l_Md_looksToward_2, if_neg (show ¬ (128 : Int32) ≤ nI i from nI_ge (b := 128) hi (by omega)), e1, q_and _ (by omega) _ hg, e2, Option.bind_some, if_pos hx, nI_clamp (by omega), nI_1]
      refine ⟨_, rfl, fun q hq => by rw [q_upN hq]; exact hu.1 q hq, fun j hj => ?_⟩
      by_cases e : j = i
      · subst e; exact q_upV
      · rw [q_upE (fun q => e q.2)]; exact hu.2 j (by omega)) 0 R n (by omega) (by omega) ⟨fun _ _ => rfl, fun k hk => by omega⟩
  have hW : Wd R1 (fun k => if k % 64 &&& gg = gg then 0 else 1000000) := fun k hk => ⟨h4 k hk, by dsimp only; split <;> omega⟩
  have hG : GdT m st cn mn gg (fun k => if k % 64 &&& gg = gg then 0 else 1000000) := by
    intro k hk hka
    dsimp only
    by_cases h : k % 64 &&& gg = gg
    · rw [if_pos h]
      exact ⟨Or.inr ⟨0, pk2 k, ⟨rfl, rfl⟩, by rw [show pk2 k / 2 = k % 64 by unfold pk2; omega]; exact h⟩, fun _ => rfl⟩
    · rw [if_neg h]
      exact ⟨Or.inl rfl, fun q => absurd q h⟩
  have hsum : sm (fun k => if k % 64 &&& gg = gg then 0 else 1000000) 128 ≤ 128 * 1000000 := sm_b 128 (fun j hj => (hW j hj).2)
  obtain ⟨W, R', b1, b2, b3, b4, b5⟩ := whileT (I := I) (n := n) (by omega) hm hmn 128000001 _ R1 n (by omega) (by omega) (by rw [h3 1 (by decide)]; exact h0) (fun g w hg hw => by rw [h3 13 (by decide)]; exact hc g w hg hw) hW hG
  refine ⟨W, R', ?_, fun q hq => by rw [b2 q hq, h3 q hq], b3, ?_⟩
  · unfold p_Md_looksToward
    rw [show l_Md_looksToward_2 n (nI gg) n 0 I R = some z from h1, h2]
    show (l_Md_looksToward_39 n n 1 I R1).bind _ = _
    rw [b1]
    rfl
  · have lb : ∀ (i p q c : Nat), p < 2 * 2 ^ m → wk (CE m st cn mn 0) i p q c → q / 2 &&& gg = gg → W (kp p) ≤ c := by
      intro i
      induction i with
      | zero =>
        intro p q c hp hw hq
        obtain ⟨rfl, rfl⟩ := hw
        have := (b4 (kp p) (kp_lt (by omega)) (by rw [show kp p % 64 = p / 2 by unfold kp; omega]; omega)).2 (by rw [show kp p % 64 = p / 2 by unfold kp; omega]; exact hq)
        omega
      | succ i ih =>
        intro p q c hp hw hq
        obtain ⟨y, d, c', a1, a2, a3⟩ := hw
        have hy := CE_q a1
        have h9 := ih y q c' hy a2 hq
        obtain ⟨_, g, g1, g2, g3, g4, g5, g6, g7⟩ := a1
        have e1 : kp p % 64 = p / 2 := by unfold kp; omega
        have e2 : kp p / 64 = p % 2 := by unfold kp; omega
        have h10 := b5 (kp p) (kp_lt (by omega)) (by omega) g ⟨⟨g1, g2, by rw [e2]; exact g5, g4⟩, by rw [e1, e2]; exact g3⟩
        have e3 : toK (kp p) g = kp y := by unfold toK; rw [e1, e2, g6]; unfold kp; omega
        rw [e2, e3] at h10
        rw [g7, show (p + 0) % 2 = p % 2 from rfl] at a3
        omega
    intro p hp
    refine ⟨(b3 _ (kp_lt (by omega))).2, fun i q c hw hq => lb i p q c hp hw hq, ?_⟩
    rcases (b4 (kp p) (kp_lt (by omega)) (by rw [show kp p % 64 = p / 2 by unfold kp; omega]; omega)).1 with h | ⟨i, q, i1, i2⟩
    · exact Or.inl h
    · rw [pk_kp (by omega)] at i1
      exact Or.inr ⟨i, q, i1, i2⟩
theorem bank_ok0 {m p g : Nat} (hp : p < 2 * 2 ^ m) (hm : m ≤ 6) : (bw m p &&& g = g) ↔ (g < 2 ^ m ∧ hr g (p / 2) (p % 2) = true) := by
  have h64 := q_p2 m (by omega)
  have hb := bw_lt hp hm
  have e : dif (bw m p) 0 = bw m p := by
    unfold dif
    rw [Nat.zero_xor, show (63 : Nat) = 2 ^ 6 - 1 from rfl, Nat.and_two_pow_sub_one_eq_mod, Nat.mod_eq_of_lt (by omega)]
  have := bank_ok (g := g) (st := 0) hp hm
  rw [e, Nat.and_comm, Nat.and_zero] at this
  rw [this]
  simp
theorem st_first {n : Nat} {v : Int32} {E : PE} {F G : Nat → Nat → Int32} {P : Nat → Nat → Option Nat} {N : Nat → Nat} {I : Nat → Int32} {R : Nat → Nat → Int32} (hn : 300000000 ≤ n) (h : RL E F G P N I R) : OKi E (p_LB_first n E v F G P N) (p_Md_first n v I R) := by
  obtain ⟨m, k, r, b, t, w, a, L, be, he, oi, h⟩ := h
  obtain ⟨hm, h0, hB, hL, hTl⟩ := SR_go h.1
  have f5 : F 1 5 = nI m := h.1.1.2.1.2
  have h64 := q_p2 m (by omega)
  unfold p_LB_first p_Md_first
  by_cases hS : isS m v
  · rw [isS_c1 hm f5 hS, isS_1 hm h0 hS]
    obtain ⟨g, hg, rfl⟩ := hS
    obtain ⟨F1, G1, P1, N1, a1, a2, a3, a4, a5, a6, a7⟩ := refreshC (n := n) h (by omega)
    obtain ⟨⟨n1, n2, n3, n4, n5, n6, n7⟩, -, -, -, -, -, ⟨q8, f7⟩, ⟨q9, f6⟩, -, -⟩ := h.1.1
    have ha6 : a < 64 := by omega
    have hpk := pk2_aw ha6 n6
    have hp0 : 2 * a + w < 2 * 2 ^ m := by omega
    have hmn : ∀ g w, mnS (R 1) m L g w ≤ 1050 := fun g w => mnS_le hB hL.1 hL.2.1
    obtain ⟨x, I1, R1, c1, c2, c3, c4⟩ := leastFromM (n := n) (st := 0) (k0 := a + 64 * w) (g := g) (I := I) hn hL hTl rfl hm h0 hB byI_none (by omega) (by rw [hpk]; exact hp0) (by omega)
    rw [hpk] at c4
    obtain ⟨G2, M, b1, b2, b3, b4⟩ := measToC (n := n) (st := 0) (g := g) (cnt := false) (E := E) (F := F1) (G0 := G1) (P := P1) (N := N1) (by omega) hm (by omega) (by omega) a4.2.1 (Tb_W a5) hmn
    obtain ⟨e1, e2, e3⟩ := cmpL (v := x) hp0 b4 (b3 _ hp0).2 c4
    have er : R1 1 = R 1 := c2.2 1 (by decide) (by decide) (by decide) (by decide) (by decide) (by decide)
    have hcls : ∀ z, p_Se_firstSetAt n E F1 G2 P1 N1 (nI (2 * a + w)) = some z → ((p_LB_refresh n E F G P N).bind fun (F5, G6, P7, N8) => (p_Se_measureTo n E (nI g) 0 0 F5 G6 P7 N8).bind fun (F11, G12, P13, N14) => (p_St_place n E F11 G12 P13 N14 ).bind fun x16 => (p_Se_firstSetAt n E F11 G12 P13 N14 x16).bind fun x18 => some (x18, F11, G12, P13, N14)) = some (z, F1, G2, P1, N1) := by
      intro z hz
      rw [a1, Option.bind_some]
      dsimp only
      rw [show p_Se_measureTo n E (nI g) 0 0 F1 G1 P1 N1 = some (F1, G2, P1, N1) from b1, Option.bind_some]
      dsimp only
      rw [placeC (by rw [a3]; exact f6) (by rw [a3]; exact f7) ha6 n6, Option.bind_some, hz]
      rfl
    have hmod : ∀ (z : Int32 × MU), (if nI x = 1000000 then some ((-5), I1, R1) else (if nI x = 0 then some ((-5), I1, R1) else (p_Md_looksToward n (nI g) I1 R1).bind fun (I10, R11) => l_Md_first_51 n (nI x) (R11 1 8) I10 R11 n 1)) = some z → ((p_Md_now n I R).bind fun x4 => (p_Md_leastFrom n x4 (nI g) (-1) I R).bind fun (x8, I6, R7) => (if x8 = 1000000 then some ((-5), I6, R7) else (if x8 = 0 then some ((-5), I6, R7) else (p_Md_looksToward n (nI g) I6 R7).bind fun (I10, R11) => l_Md_first_51 n x8 (R11 1 8) I10 R11 n 1))) = some z := by
      intro z hz
      rw [nowM q9 q8, Option.bind_some, c1]
      exact hz
    have hRL : RLp E F1 G2 P1 N1 I1 R1 m k r b t w a L be he oi := RLp_Lw (RLp_G a2 (fun k _ k24 k25 => b2 k k24 k25)) c2
    have hMp := (b3 _ hp0).2
    have hx6 := c4.1
    by_cases hF : x = 1000000
    · refine ⟨-5, F1, G2, P1, N1, I1, R1, hcls (-5) ?_, hmod _ (by rw [hF]; rfl), hRL.rl⟩
      unfold p_Se_firstSetAt
      rw [measAtC (show 2 * 2 ^ m ≤ 128 by omega) hp0 b3]
      unfold orV
      rw [if_pos (e2.mp hF)]
      rfl
    · have hxM := e3 hF
      have hMl : M (2 * a + w) < 1073741824 := by omega
      have hx9 := (b4.1 _ hp0 hMl).1
      by_cases hZ : x = 0
      · refine ⟨-5, F1, G2, P1, N1, I1, R1, hcls (-5) ?_, hmod _ (by rw [hZ]; rfl), hRL.rl⟩
        unfold p_Se_firstSetAt
        rw [measAtC (show 2 * 2 ^ m ≤ 128 by omega) hp0 b3]
        unfold orV
        rw [if_neg (show ¬ M (2 * a + w) = 1073741824 by omega), ← hxM, hZ]
        rfl
      · obtain ⟨W, R2, d1, d2, d3, d4⟩ := towM (n := n) (gg := g) (I := I1) (R := R1) hn hm (by omega) (by rw [er]; exact h0) c3 hmn
        have er2 : R2 1 = R 1 := by rw [d2 1 (by decide), er]
        have hR0 : R2 1 0 = nI m := by rw [er2]; exact h0
        have c3' : csOK R2 m 0 (cnS (R 1) m L be he) (mnS (R 1) m L) := fun g w hg hw => by rw [d2 13 (by decide)]; exact c3 g w hg hw
        have hT2 : TbW G2 m (cnS (R 1) m L be he) (mnS (R 1) m L) := fun x y x1 x2 x3 => by
          rw [b2 (19 + y) (by omega) (by omega), b2 (22 + y) (by omega) (by omega)]
          exact a5 x y x1 x2 x3
        have ep1 : (2 * a + w) / 2 = a := by omega
        have ep2 : (2 * a + w) % 2 = w := by omega
        have loop : ∀ (c i kc km : Nat), 2 ^ m - 1 - i = c → i ≤ 2 ^ m - 1 → c < kc → c < km → ∃ z, l_Se_firstSetAt_27 n E F1 G2 P1 N1 (nI (2 * a + w)) (nI x) (nI w) (nI (bw m (2 * a + w))) kc (nI (i + 1)) = some z ∧ l_Md_first_51 n (nI x) (nI w) I1 R2 km (nI (i + 1)) = some (z, I1, R2) := by
          intro c
          induction c with
          | zero =>
            intro i kc km hc hi h1 h2
            obtain ⟨kc, rfl⟩ : ∃ y, kc = y + 1 := ⟨kc - 1, by omega⟩
            obtain ⟨km, rfl⟩ : ∃ y, km = y + 1 := ⟨km - 1, by omega⟩
            refine ⟨-5, ?_, ?_⟩
            · rw [l_Se_firstSetAt_27]
              unfold p_Go_everybody
              rw [a4.2.1, Option.bind_some, if_pos (nI_lt (by omega) (by omega))]
            · rw [l_Md_first_51, q_Mall hm hR0, Option.bind_some, if_pos (nI_lt (by omega) (by omega))]
          | succ c ih =>
            intro i kc km hc hi h1 h2
            obtain ⟨kc, rfl⟩ : ∃ y, kc = y + 1 := ⟨kc - 1, by omega⟩
            obtain ⟨km, rfl⟩ : ∃ y, km = y + 1 := ⟨km - 1, by omega⟩
            have hg6 : i + 1 < 64 := by omega
            have hgm : i + 1 < 2 ^ m := by omega
            obtain ⟨z, y1, y2⟩ := ih (i + 1) kc km (by omega) (by omega) (by omega) (by omega)
            have hx64 := q_x64 ha6 hg6
            have hnx : 2 * (a ^^^ (i + 1)) + (1 - w) < 2 * 2 ^ m := by
              have := Nat.xor_lt_two_pow n7 hgm
              omega
            have hkp : kp (2 * (a ^^^ (i + 1)) + (1 - w)) = (a ^^^ (i + 1)) + 64 * (1 - w) := by unfold kp; omega
            have hW := d4 _ hnx
            rw [hkp] at hW
            obtain ⟨t1, t2⟩ := d3 ((a ^^^ (i + 1)) + 64 * (1 - w)) (by omega)
            obtain ⟨k1, k2, k3⟩ := cmpL hnx b4 (b3 _ hnx).2 hW
            have hMn := (b3 _ hnx).2
            have hmb := hmn (i + 1) w
            have hbl := bw_lt hp0 hm
            have hdl := dif_le (x := i + 1) (y := bw m (2 * a + w))
            have ib := bank_ok0 (g := i + 1) hp0 hm
            rw [ep1, ep2] at ib
            have eC : l_Se_firstSetAt_27 n E F1 G2 P1 N1 (nI (2 * a + w)) (nI x) (nI w) (nI (bw m (2 * a + w))) (kc + 1) (nI (i + 1)) = (if hr (i + 1) a w = true ∧ cnS (R 1) m L be he (i + 1) w = true ∧ M (2 * (a ^^^ (i + 1)) + (1 - w)) ≠ 1073741824 ∧ M (2 * (a ^^^ (i + 1)) + (1 - w)) + mnS (R 1) m L (i + 1) w = x then some (nI (i + 1)) else l_Se_firstSetAt_27 n E F1 G2 P1 N1 (nI (2 * a + w)) (nI x) (nI w) (nI (bw m (2 * a + w))) kc (nI (i + 1 + 1))) := by
              rw [l_Se_firstSetAt_27]
              unfold p_Go_everybody
              rw [a4.2.1, Option.bind_some, if_neg (nI_nlt (by omega) (by omega)), q_dif _ hg6 _ (by omega), nI_1]
              by_cases hh : hr (i + 1) a w = true
              · rw [(dif0 hg6).mpr (ib.mpr ⟨hgm, hh⟩), if_pos (show nI 0 = 0 from rfl), canBeC hT2 hm (by omega) hgm n6]
                by_cases hcn : cnS (R 1) m L be he (i + 1) w = true
                · rw [hcn, Option.bind_some, if_neg (show ¬ b2i true = 0 by decide), behindC (by omega) hg6, Option.bind_some, ep1, ep2, measAtC (show 2 * 2 ^ m ≤ 128 by omega) hnx b3, Option.bind_some, minOfC hT2 hm (by omega) hgm n6, Option.bind_some]
                  unfold orV
                  by_cases hv : M (2 * (a ^^^ (i + 1)) + (1 - w)) = 1073741824
                  · rw [if_pos hv, if_pos rfl, if_neg (fun q => q.2.2.1 hv)]
                  · rw [if_neg hv, if_neg (show ¬ nI (M (2 * (a ^^^ (i + 1)) + (1 - w))) = (-5) from fun e => nI_pos (n := M (2 * (a ^^^ (i + 1)) + (1 - w))) (by omega) (by rw [e]; decide)), nI_add]
                    by_cases hsum : M (2 * (a ^^^ (i + 1)) + (1 - w)) + mnS (R 1) m L (i + 1) w = x
                    · rw [if_pos (show nI (M (2 * (a ^^^ (i + 1)) + (1 - w)) + mnS (R 1) m L (i + 1) w) = nI x by rw [hsum]), if_pos ⟨hh, rfl, hv, hsum⟩]
                    · rw [if_neg (show ¬ nI (M (2 * (a ^^^ (i + 1)) + (1 - w)) + mnS (R 1) m L (i + 1) w) = nI x from fun q => hsum ((nI_eq (by omega) (by omega)).mp q)), if_neg (fun q => hsum q.2.2.2)]
                · rw [Bool.eq_false_iff.mpr hcn, Option.bind_some, if_pos (show b2i false = 0 from rfl), if_neg (fun q => absurd q.2.1 (by decide))]
              · rw [if_neg (show ¬ nI (dif (i + 1) (bw m (2 * a + w))) = 0 from fun q => hh (ib.mp ((dif0 hg6).mp ((nI_eq (a := dif (i + 1) (bw m (2 * a + w))) (b := 0) (by omega) (by omega)).mp q))).2), if_neg (fun q => hh q.1)]
            have eM : l_Md_first_51 n (nI x) (nI w) I1 R2 (km + 1) (nI (i + 1)) = (if hr (i + 1) a w = true ∧ cnS (R 1) m L be he (i + 1) w = true ∧ mnS (R 1) m L (i + 1) w + W ((a ^^^ (i + 1)) + 64 * (1 - w)) = x then some (nI (i + 1), I1, R2) else l_Md_first_51 n (nI x) (nI w) I1 R2 km (nI (i + 1 + 1))) := by
              have e64 : (64 : Int32) * nI w + nI (i + 1) = nI (64 * w + (i + 1)) := by rw [show (64 : Int32) * nI w = nI (64 * w) from pk_mul 64 w, nI_add]
              have hix : ix (nI (64 * w + (i + 1))) 128 := nI_in (by omega) (by omega)
              have hix2 : ix (nI ((a ^^^ (i + 1)) + 64 * (1 - w))) 128 := nI_in (by omega) (by omega)
              have q92 : R2 1 9 = nI a := by rw [er2]; exact q9
              rw [l_Md_first_51, q_Mall hm hR0, Option.bind_some, if_neg (nI_nlt (by omega) (by omega)), e64, if_pos hix, q92, q_to ha6 hg6 n6, if_pos hix2]
              simp only [nI_clamp (show 64 * w + (i + 1) < 2 ^ 31 by omega), nI_clamp (show (a ^^^ (i + 1)) + 64 * (1 - w) < 2 ^ 31 by omega)]
              rw [c3' (i + 1) w hg6 n6, hereM hg6 ha6 n6, t1, nI_1]
              unfold cO
              by_cases hcn : cnS (R 1) m L be he (i + 1) w = true
              · rw [if_pos (show 1 ≤ i + 1 ∧ i + 1 < 2 ^ m ∧ cnS (R 1) m L be he (i + 1) w = true ∧ (i + 1) &&& 0 = 0 from ⟨by omega, hgm, hcn, Nat.and_zero _⟩), if_neg (show ¬ nI (mnS (R 1) m L (i + 1) w) = (-1) from fun e => nI_pos (n := mnS (R 1) m L (i + 1) w) (by omega) (by rw [e]; decide)), Option.bind_some]
                by_cases hh : hr (i + 1) a w = true
                · rw [hh, if_neg (show ¬ b2i true = 0 by decide), nI_add]
                  by_cases hsum : mnS (R 1) m L (i + 1) w + W ((a ^^^ (i + 1)) + 64 * (1 - w)) = x
                  · rw [if_pos (show nI (mnS (R 1) m L (i + 1) w + W ((a ^^^ (i + 1)) + 64 * (1 - w))) = nI x by rw [hsum]), if_pos ⟨rfl, hcn, hsum⟩]
                  · rw [if_neg (show ¬ nI (mnS (R 1) m L (i + 1) w + W ((a ^^^ (i + 1)) + 64 * (1 - w))) = nI x from fun q => hsum ((nI_eq (by omega) (by omega)).mp q)), if_neg (fun q => hsum q.2.2)]
                · rw [Bool.eq_false_iff.mpr hh, if_pos (show b2i false = 0 from rfl), if_neg (fun q => absurd q.1 (by decide))]
              · rw [if_neg (show ¬ (1 ≤ i + 1 ∧ i + 1 < 2 ^ m ∧ cnS (R 1) m L be he (i + 1) w = true ∧ (i + 1) &&& 0 = 0) from fun q => hcn q.2.2.1), if_pos rfl, if_neg (fun q => hcn q.2.1)]
            rw [eC, eM]
            by_cases hfin : hr (i + 1) a w = true ∧ cnS (R 1) m L be he (i + 1) w = true ∧ mnS (R 1) m L (i + 1) w + W ((a ^^^ (i + 1)) + 64 * (1 - w)) = x
            · have hWn : W ((a ^^^ (i + 1)) + 64 * (1 - w)) ≠ 1000000 := by have := hfin.2.2; omega
              have := k3 hWn
              rw [if_pos hfin, if_pos ⟨hfin.1, hfin.2.1, fun q => hWn (k2.mpr q), by have := hfin.2.2; omega⟩]
              exact ⟨_, rfl, rfl⟩
            · rw [if_neg hfin, if_neg (fun q => hfin ⟨q.1, q.2.1, by
                have hWn : W ((a ^^^ (i + 1)) + 64 * (1 - w)) ≠ 1000000 := fun e => q.2.2.1 (k2.mp e)
                have := k3 hWn
                have := q.2.2.2
                omega⟩)]
              exact ⟨z, y1, y2⟩
        obtain ⟨z, y1, y2⟩ := loop (2 ^ m - 1) 0 n n (by omega) (by omega) (by omega) (by omega)
        refine ⟨z, F1, G2, P1, N1, I1, R2, hcls z ?_, hmod _ ?_, (RLp_Lw hRL ⟨fun _ _ _ => rfl, fun q _ _ _ _ _ q16 => d2 q q16⟩).rl⟩
        · unfold p_Se_firstSetAt
          rw [measAtC (show 2 * 2 ^ m ≤ 128 by omega) hp0 b3, Option.bind_some]
          unfold orV
          rw [if_neg (show ¬ M (2 * a + w) = 1073741824 by omega), ← hxM, if_pos (show (0 : Int32) < nI x from nI_lt (a := 0) (by omega) (by omega)), bankC hm a4.2.1 hp0, Option.bind_some, q_pa _ (by omega), ep2]
          exact y1
        · rw [if_neg (show ¬ nI x = 1000000 from fun q => hF ((nI_eq (a := x) (b := 1000000) (by omega) (by omega)).mp q)), if_neg (show ¬ nI x = 0 from fun q => hZ ((nI_eq (a := x) (b := 0) (by omega) (by omega)).mp q)), d1, Option.bind_some]
          dsimp only
          rw [er2, q8]
          exact y2
  · rw [isS_c0 hm f5 hS, isS_0 hm h0 hS]
    exact ⟨-2, F, G, P, N, I, R, rfl, rfl, h.rl⟩
