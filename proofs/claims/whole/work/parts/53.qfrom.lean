/-! ===== the model's ways from a place ===== -/
def pk2 (k : Nat) : Nat := 2 * (k % 64) + k / 64
def one2 : Nat → Nat → Nat := fun _ _ => 1
/-- what stands is the cost of a walk, or none -/
def Gd (m st : Nat) (cn : Nat → Nat → Bool) (mn : Nat → Nat → Nat) (p0 : Nat) (D S : Nat → Nat) : Prop := ∀ k, k < 128 → (D k = 1000000 ∨ ∃ i, wk (CE m st cn mn 0) i p0 (pk2 k) (D k)) ∧ (S k = 1000000 ∨ ∃ i, wk (CE m st cn one2 0) i p0 (pk2 k) (S k))
def Pr (D0 S0 : Nat → Nat) (an : Bool) (D S : Nat → Nat) : Prop := (∀ k, k < 128 → D k ≤ D0 k ∧ S k ≤ S0 k) ∧ (an = true → ∃ k, k < 128 ∧ (D k < D0 k ∨ S k < S0 k)) ∧ (an = false → ∀ k, k < 128 → D k = D0 k ∧ S k = S0 k)
theorem Pr.rfl' (D S : Nat → Nat) : Pr D S false D S := ⟨fun _ _ => ⟨Nat.le_refl _, Nat.le_refl _⟩, fun h => absurd h (by decide), fun _ _ _ => ⟨rfl, rfl⟩⟩
theorem Pr.trans {D0 S0 D1 S1 D2 S2 : Nat → Nat} {x y : Bool} (h1 : Pr D0 S0 x D1 S1) (h2 : Pr D1 S1 y D2 S2) : Pr D0 S0 (x || y) D2 S2 := by
  refine ⟨fun k hk => ?_, fun h => ?_, fun h k hk => ?_⟩
  · have a := h1.1 k hk; have b := h2.1 k hk; omega
  · cases x
    · obtain ⟨k, hk, h3⟩ := h2.2.1 (by simpa using h)
      have a := h1.1 k hk
      exact ⟨k, hk, by omega⟩
    · obtain ⟨k, hk, h3⟩ := h1.2.1 rfl
      have a := h2.1 k hk
      exact ⟨k, hk, by omega⟩
  · cases x
    · cases y
      · have a := h1.2.2 rfl k hk; have b := h2.2.2 rfl k hk; omega
      · simp at h
    · simp at h
def Cl (m st : Nat) (cn : Nat → Nat → Bool) (mn : Nat → Nat → Nat) (D S : Nat → Nat) (k g : Nat) : Prop := (1 ≤ g ∧ g < 2 ^ m ∧ cn g (k / 64) = true ∧ g &&& st = 0) ∧ hr g (k % 64) (k / 64) = true → D ((k % 64 ^^^ g) + 64 * (1 - k / 64)) ≤ D k + mn g (k / 64) ∧ S ((k % 64 ^^^ g) + 64 * (1 - k / 64)) ≤ S k + 1
theorem Cl_cg {m st : Nat} {cn : Nat → Nat → Bool} {mn : Nat → Nat → Nat} {D S D' S' : Nat → Nat} {k g : Nat} (hk : k < 128) (hg : g < 64) (h : ∀ j, j < 128 → D' j = D j ∧ S' j = S j) (hc : Cl m st cn mn D S k g) : Cl m st cn mn D' S' k g := by
  intro hv
  have := q_x64 (show k % 64 < 64 by omega) hg
  have h1 := h _ hk
  have h2 := h ((k % 64 ^^^ g) + 64 * (1 - k / 64)) (by omega)
  rw [h1.1, h1.2, h2.1, h2.2]
  exact hc hv
theorem closM {n m st k0 p0 : Nat} {cn : Nat → Nat → Bool} {mn : Nat → Nat → Nat} {D0 S0 : Nat → Nat} {I : Nat → Int32} {R : Nat → Nat → Int32} (hn : 1000 ≤ n) (hm : m ≤ 6) (h0 : R 1 0 = nI m) (hk0 : k0 < 128) (ham : k0 % 64 < 2 ^ m) (hc : csOK R m st cn mn) (hmn : ∀ g w, mn g w ≤ 1050) (hD : DSok R D0 S0) (hG : Gd m st cn mn p0 D0 S0) :
    ∃ an D S R', p_Md_comesCloser n (nI k0) I R = some (b2i an, I, R') ∧ (∀ q, q ≠ 14 → q ≠ 15 → R' q = R q) ∧ DSok R' D S ∧ Gd m st cn mn p0 D S ∧ Pr D0 S0 an D S ∧ (an = false → ∀ g, 1 ≤ g → g < 2 ^ m → Cl m st cn mn D0 S0 k0 g) := by
  have h64 := q_p2 m (by omega)
  have e1 : nI k0 - nI k0 / (64 : Int32) * 64 = nI (k0 % 64) := pk_rem (d := 64) (by omega) (by omega) (by omega)
  have e2 : nI k0 / (64 : Int32) = nI (k0 / 64) := pk_div (d := 64) (by omega) (by omega) (by omega)
  have ek : nI k0 = nI (k0 % 64 + 64 * (k0 / 64)) := by congr 1; omega
  obtain ⟨z, h1, h2⟩ := q_lp (fun k i (u : Int32 × (Nat → Int32) × (Nat → Nat → Int32)) => l_Md_comesCloser_16 n (nI k0) (nI (k0 % 64)) (nI (k0 / 64)) k u.1 (nI (i + 1)) u.2.1 u.2.2) (2 ^ m - 1) (fun i u => ∃ an D S, u.1 = b2i an ∧ u.2.1 = I ∧ (∀ q, q ≠ 14 → q ≠ 15 → u.2.2 q = R q) ∧ DSok u.2.2 D S ∧ Gd m st cn mn p0 D S ∧ Pr D0 S0 an D S ∧ (an = false → ∀ g, 1 ≤ g → g ≤ i → Cl m st cn mn D0 S0 k0 g)) (fun z => ∃ an D S, z.1 = b2i an ∧ z.2.1 = I ∧ (∀ q, q ≠ 14 → q ≠ 15 → z.2.2 q = R q) ∧ DSok z.2.2 D S ∧ Gd m st cn mn p0 D S ∧ Pr D0 S0 an D S ∧ (an = false → ∀ g, 1 ≤ g → g < 2 ^ m → Cl m st cn mn D0 S0 k0 g)) (fun k u hu => by
      obtain ⟨u1, u2, u3⟩ := u
      dsimp only at hu
      obtain ⟨an, D, S, r1, r2, r3, r4, r5, r6, r7⟩ := hu
      refine ⟨(u1, u2, u3), ?_, an, D, S, r1, r2, r3, r4, r5, r6, fun ha g g1 g2 => r7 ha g g1 (by omega)⟩
      show l_Md_comesCloser_16 n (nI k0) (nI (k0 % 64)) (nI (k0 / 64)) (k + 1) u1 (nI (2 ^ m - 1 + 1)) u2 u3 = _
      have r3' : ∀ q, q ≠ 14 → q ≠ 15 → u3 q = R q := r3
      have e0 : u3 1 0 = nI m := by rw [r3' 1 (by decide) (by decide), h0]
      rw [ccB_eq, q_Mall hm e0]
      show (if nI (2 ^ m - 1) < nI (2 ^ m - 1 + 1) then _ else _) = _
      rw [if_pos (nI_lt (by omega) (by omega))]) (fun k i u hi hu => by
      obtain ⟨u1, u2, u3⟩ := u
      dsimp only at hu
      obtain ⟨an, D, S, r1, r2, r3, r4, r5, r6, r7⟩ := hu
      have r1' : u1 = b2i an := r1
      have r2' : u2 = I := r2
      have r3' : ∀ q, q ≠ 14 → q ≠ 15 → u3 q = R q := r3
      have r4' : DSok u3 D S := r4
      have e0 : u3 1 0 = nI m := by rw [r3' 1 (by decide) (by decide), h0]
      have hc' : csOK u3 m st cn mn := fun g w hg hw => by rw [r3' 13 (by decide) (by decide)]; exact hc g w hg hw
      show ∃ a' : Int32 × (Nat → Int32) × (Nat → Nat → Int32), l_Md_comesCloser_16 n (nI k0) (nI (k0 % 64)) (nI (k0 / 64)) (k + 1) u1 (nI (i + 1)) u2 u3 = l_Md_comesCloser_16 n (nI k0) (nI (k0 % 64)) (nI (k0 / 64)) k a'.1 (nI (i + 1 + 1)) a'.2.1 a'.2.2 ∧ _
      obtain ⟨R2, c1, c2, c3⟩ := ccB_ok (n := n) (g := i + 1) (a := k0 % 64) (w := k0 / 64) (an := an) (I := u2) (by omega) (by omega) (by omega) hc' r4' (hmn _ _)
      rw [← ek] at c1
      have hix : ix ((64 : Int32) * nI (k0 / 64) + nI (i + 1)) 128 := by
        rw [show (64 : Int32) * nI (k0 / 64) = nI (64 * (k0 / 64)) from pk_mul 64 (k0 / 64), nI_add]
        exact nI_in (by omega) (by omega)
      rw [ccB_eq, q_Mall hm e0]
      show ∃ a' : Int32 × (Nat → Int32) × (Nat → Nat → Int32), (if nI (2 ^ m - 1) < nI (i + 1) then _ else if ix ((64 : Int32) * nI (k0 / 64) + nI (i + 1)) 128 then (ccB n (nI k0) (nI (k0 % 64)) (nI (k0 / 64)) u1 (nI (i + 1)) u2 u3).bind _ else none) = _ ∧ _
      rw [if_neg (nI_nlt (by omega) (by omega)), if_pos hix, r1', c1, r2']
      refine ⟨(_, I, R2), by rw [← nI_1 (i + 1)]; rfl, ?_⟩
      have hx := q_x64 (show k0 % 64 < 64 by omega) (show i + 1 < 64 by omega)
      by_cases hv : (1 ≤ i + 1 ∧ i + 1 < 2 ^ m ∧ cn (i + 1) (k0 / 64) = true ∧ (i + 1) &&& st = 0) ∧ hr (i + 1) (k0 % 64) (k0 / 64) = true
      · rw [if_pos hv, if_pos hv] at c3
        rw [if_pos hv]
        have ek2 : k0 % 64 + 64 * (k0 / 64) = k0 := by omega
        rw [ek2] at c3 ⊢
        generalize hto : (k0 % 64 ^^^ (i + 1)) + 64 * (1 - k0 / 64) = to at c3 ⊢
        have hto1 : to < 128 := by omega
        have edge : ∀ ct : Nat → Nat → Nat, CE m st cn ct 0 (pk2 k0) (pk2 to) (ct (i + 1) (k0 / 64)) := by
          intro ct
          unfold pk2
          refine ⟨by omega, i + 1, hv.1.1, hv.1.2.1, ?_, hv.1.2.2.2, ?_, ?_, ?_⟩
          · rw [show (2 * (k0 % 64) + k0 / 64) / 2 = k0 % 64 by omega, show (2 * (k0 % 64) + k0 / 64) % 2 = k0 / 64 by omega]; exact hv.2
          · rw [show (2 * (k0 % 64) + k0 / 64 + 0) % 2 = k0 / 64 by omega]; exact hv.1.2.2.1
          · rw [show (2 * (k0 % 64) + k0 / 64) / 2 = k0 % 64 by omega, show (2 * (k0 % 64) + k0 / 64) % 2 = k0 / 64 by omega]; omega
          · rw [show (2 * (k0 % 64) + k0 / 64 + 0) % 2 = k0 / 64 by omega]
        have b0 := r4' k0 hk0
        have bt' := r4' to hto1
        have ht1 : (k0 % 64 ^^^ (i + 1)) + 64 * (1 - k0 / 64) = to := hto
        refine ⟨_, _, _, rfl, rfl, fun q q1 q2 => by show R2 q = _; rw [c2 q q1 q2]; exact r3' q q1 q2, c3, ?_, ?_, ?_⟩
        · intro j hj
          by_cases e : j = to
          · subst e
            rw [ud_s, ud_s]
            constructor
            · by_cases hlt : D k0 + mn (i + 1) (k0 / 64) < D j
              · rw [Nat.min_eq_right (by omega)]
                rcases (r5 k0 hk0).1 with h | ⟨x, h⟩
                · omega
                · exact Or.inr ⟨x + 1, wk_snoc _ _ _ _ _ _ h (edge mn)⟩
              · rw [Nat.min_eq_left (by omega)]; exact (r5 j hj).1
            · by_cases hlt : S k0 + 1 < S j
              · rw [Nat.min_eq_right (by omega)]
                rcases (r5 k0 hk0).2 with h | ⟨x, h⟩
                · omega
                · exact Or.inr ⟨x + 1, wk_snoc _ _ _ _ _ _ h (edge one2)⟩
              · rw [Nat.min_eq_left (by omega)]; exact (r5 j hj).2
          · rw [ud_n e, ud_n e]; exact r5 j hj
        · refine r6.trans ⟨fun j hj => ?_, fun h => ?_, fun h j hj => ?_⟩
          · by_cases e : j = to
            · subst e; rw [ud_s, ud_s]; omega
            · rw [ud_n e, ud_n e]; omega
          · refine ⟨to, hto1, ?_⟩
            rw [ud_s, ud_s]
            simp only [Bool.or_eq_true, decide_eq_true_eq] at h
            omega
          · by_cases e : j = to
            · subst e
              rw [ud_s, ud_s]
              simp only [Bool.or_eq_false_iff, decide_eq_false_iff_not] at h
              omega
            · rw [ud_n e, ud_n e]; exact ⟨rfl, rfl⟩
        · intro h g g1 g2
          simp only [Bool.or_eq_false_iff, decide_eq_false_iff_not] at h
          by_cases eg : g = i + 1
          · subst eg
            intro _
            have p1 := r6.2.2 h.1 k0 hk0
            have p2 := r6.2.2 h.1 to hto1
            rw [ht1]
            omega
          · exact r7 h.1 g g1 (by omega)
      · rw [if_neg hv, if_neg hv] at c3
        rw [if_neg hv]
        refine ⟨an, D, S, rfl, rfl, fun q q1 q2 => by show R2 q = _; rw [c2 q q1 q2]; exact r3' q q1 q2, c3, r5, r6, fun h g g1 g2 => ?_⟩
        by_cases eg : g = i + 1
        · subst eg
          exact fun hq => absurd hq hv
        · exact r7 h g g1 (by omega)) 0 (0, I, R) n (by omega) (by omega) ⟨false, D0, S0, rfl, rfl, fun _ _ _ => rfl, hD, hG, Pr.rfl' D0 S0, fun _ g g1 g2 => by omega⟩
  obtain ⟨z1, z2, z3⟩ := z
  obtain ⟨an, D, S, r1, r2, r3, r4, r5, r6, r7⟩ := h2
  refine ⟨an, D, S, z3, ?_, r3, r4, r5, r6, r7⟩
  unfold p_Md_comesCloser
  have h1' : l_Md_comesCloser_16 n (nI k0) (nI (k0 % 64)) (nI (k0 / 64)) n 0 1 I R = some (z1, z2, z3) := h1
  rw [e1, e2, h1']
  have r1' : z1 = b2i an := r1
  have r2' : z2 = I := r2
  show (if isZ z1 then some (z1, z2, z3) else none) = _
  rw [r1', r2', if_pos (b2i_z an)]
/-- one round over all places -/
theorem roundM {n m st p0 : Nat} {cn : Nat → Nat → Bool} {mn : Nat → Nat → Nat} {D0 S0 : Nat → Nat} {I : Nat → Int32} {R : Nat → Nat → Int32} (hn : 1000 ≤ n) (hm : m ≤ 6) (hp0 : p0 < 2 * 2 ^ m) (h0 : R 1 0 = nI m) (hc : csOK R m st cn mn) (hmn : ∀ g w, mn g w ≤ 1050) (hD : DSok R D0 S0) (hG : Gd m st cn mn p0 D0 S0) :
    ∃ an D S R', l_Md_looksFrom_55 n n 0 0 I R = some (b2i an, I, R') ∧ (∀ q, q ≠ 14 → q ≠ 15 → R' q = R q) ∧ DSok R' D S ∧ Gd m st cn mn p0 D S ∧ Pr D0 S0 an D S ∧ (an = false → ∀ k, k < 128 → (D0 k < 1000000 ∨ S0 k < 1000000) → ∀ g, 1 ≤ g → g < 2 ^ m → Cl m st cn mn D0 S0 k g) := by
  have h64 := q_p2 m (by omega)
  have hwp : ∀ (e : Nat → Nat → Nat → Prop) (i p q c : Nat), (∀ p q d, e p q d → q < 2 * 2 ^ m) → p < 2 * 2 ^ m → wk e i p q c → q < 2 * 2 ^ m := by
    intro e i
    induction i with
    | zero => intro p q c he hp h; obtain ⟨rfl, _⟩ := h; exact hp
    | succ i ih =>
      intro p q c he hp h
      obtain ⟨x, d, c', a1, a2, a3⟩ := h
      exact ih x q c' he (he _ _ _ a1) a2
  obtain ⟨z, h1, h2⟩ := q_lp (fun k i (u : Int32 × (Nat → Int32) × (Nat → Nat → Int32)) => l_Md_looksFrom_55 n k u.1 (nI i) u.2.1 u.2.2) 128 (fun i u => ∃ an D S, u.1 = b2i an ∧ u.2.1 = I ∧ (∀ q, q ≠ 14 → q ≠ 15 → u.2.2 q = R q) ∧ DSok u.2.2 D S ∧ Gd m st cn mn p0 D S ∧ Pr D0 S0 an D S ∧ (an = false → ∀ k, k < i → (D0 k < 1000000 ∨ S0 k < 1000000) → ∀ g, 1 ≤ g → g < 2 ^ m → Cl m st cn mn D0 S0 k g)) (fun z => ∃ an D S, z.1 = b2i an ∧ z.2.1 = I ∧ (∀ q, q ≠ 14 → q ≠ 15 → z.2.2 q = R q) ∧ DSok z.2.2 D S ∧ Gd m st cn mn p0 D S ∧ Pr D0 S0 an D S ∧ (an = false → ∀ k, k < 128 → (D0 k < 1000000 ∨ S0 k < 1000000) → ∀ g, 1 ≤ g → g < 2 ^ m → Cl m st cn mn D0 S0 k g)) (fun k u hu => by
      obtain ⟨u1, u2, u3⟩ := u
      dsimp only at hu
      refine ⟨(u1, u2, u3), ?_, hu⟩
      show l_Md_looksFrom_55 n (k + 1) u1 (nI 128) u2 u3 = _
      rw [l_Md_looksFrom_55, if_pos (by decide)]) (fun k i u hi hu => by
      obtain ⟨u1, u2, u3⟩ := u
      dsimp only at hu
      obtain ⟨an, D, S, r1, r2, r3, r4, r5, r6, r7⟩ := hu
      have r1' : u1 = b2i an := r1
      have r2' : u2 = I := r2
      have r3' : ∀ q, q ≠ 14 → q ≠ 15 → u3 q = R q := r3
      have r4' : DSok u3 D S := r4
      have e0 : u3 1 0 = nI m := by rw [r3' 1 (by decide) (by decide), h0]
      have hc' : csOK u3 m st cn mn := fun g w hg hw => by rw [r3' 13 (by decide) (by decide)]; exact hc g w hg hw
      obtain ⟨b1, b2, b3, b4⟩ := r4' i hi
      have hx : ix (nI i) 128 := nI_in hi (by omega)
      show ∃ a' : Int32 × (Nat → Int32) × (Nat → Nat → Int32), l_Md_looksFrom_55 n (k + 1) u1 (nI i) u2 u3 = l_Md_looksFrom_55 n k a'.1 (nI (i + 1)) a'.2.1 a'.2.2 ∧ _
      rw [l_Md_looksFrom_55, if_neg (show ¬ (128 : Int32) ≤ nI i from nI_ge (b := 128) hi (by omega)), if_pos hx]
      simp only [nI_clamp (show i < 2 ^ 31 by omega)]
      rw [b1, b2, nI_1]
      by_cases hcond : D i < 1000000 ∨ S i < 1000000
      · have ham : i % 64 < 2 ^ m := by
          have hq : pk2 i < 2 * 2 ^ m := by
            rcases hcond with h | h
            · rcases (r5 i hi).1 with e | ⟨x, e⟩
              · omega
              · exact hwp _ x p0 _ _ (fun _ _ _ q => CE_q q) hp0 e
            · rcases (r5 i hi).2 with e | ⟨x, e⟩
              · omega
              · exact hwp _ x p0 _ _ (fun _ _ _ q => CE_q q) hp0 e
          unfold pk2 at hq
          omega
        obtain ⟨an2, D2, S2, R2, c1, c2, c3, c4, c5, c6⟩ := closM (I := u2) hn hm e0 hi ham hc' hmn r4' r5
        have key : (if (nI (D i)) < 1000000 then (p_Md_comesCloser n (nI i) u2 u3).bind fun (x15, I13, R14) => (if x15 = 0 then (if u1 = 0 then some (0, I13, R14) else some (1, I13, R14)) else some (1, I13, R14)) else if ix (nI i) 128 then (if 1000000 ≤ (nI (S i)) then (if u1 = 0 then some (0, u2, u3) else some (1, u2, u3)) else (p_Md_comesCloser n (nI i) u2 u3).bind fun (x20, I18, R19) => (if x20 = 0 then (if u1 = 0 then some (0, I18, R19) else some (1, I18, R19)) else some (1, I18, R19))) else none : Option (Int32 × (Nat → Int32) × (Nat → Nat → Int32))) = some (b2i (an || an2), I, R2) := by
          rw [c1, r2', r1', if_pos hx]
          by_cases hd : D i < 1000000
          · rw [if_pos (show nI (D i) < (1000000 : Int32) from nI_lt (b := 1000000) hd (by omega))]
            cases an <;> cases an2 <;> rfl
          · rw [if_neg (show ¬ nI (D i) < (1000000 : Int32) from nI_nlt (b := 1000000) (by omega) (by omega)), if_neg (show ¬ (1000000 : Int32) ≤ nI (S i) from nI_ge (b := 1000000) (by omega) (by omega))]
            cases an <;> cases an2 <;> rfl
        rw [key]
        refine ⟨(b2i (an || an2), I, R2), rfl, an || an2, D2, S2, rfl, rfl, fun q q1 q2 => by show R2 q = _; rw [c2 q q1 q2]; exact r3' q q1 q2, c3, c4, r6.trans c5, fun h j hj hj2 g g1 g2 => ?_⟩
        simp only [Bool.or_eq_false_iff] at h
        by_cases ej : j = i
        · subst ej
          exact Cl_cg hi (by omega) (fun x hx => by have := r6.2.2 h.1 x hx; omega) (c6 h.2 g g1 g2)
        · exact r7 h.1 j (by omega) hj2 g g1 g2
      · have key : (if (nI (D i)) < 1000000 then (p_Md_comesCloser n (nI i) u2 u3).bind fun (x15, I13, R14) => (if x15 = 0 then (if u1 = 0 then some (0, I13, R14) else some (1, I13, R14)) else some (1, I13, R14)) else if ix (nI i) 128 then (if 1000000 ≤ (nI (S i)) then (if u1 = 0 then some (0, u2, u3) else some (1, u2, u3)) else (p_Md_comesCloser n (nI i) u2 u3).bind fun (x20, I18, R19) => (if x20 = 0 then (if u1 = 0 then some (0, I18, R19) else some (1, I18, R19)) else some (1, I18, R19))) else none : Option (Int32 × (Nat → Int32) × (Nat → Nat → Int32))) = some (b2i an, I, u3) := by
          rw [r1', r2', if_neg (show ¬ nI (D i) < (1000000 : Int32) from nI_nlt (b := 1000000) (by omega) (by omega)), if_pos hx, if_pos (show (1000000 : Int32) ≤ nI (S i) from nI_le (a := 1000000) (by omega) (by omega))]
          cases an <;> rfl
        rw [key]
        refine ⟨(b2i an, I, u3), rfl, an, D, S, rfl, rfl, r3', r4', r5, r6, fun h j hj hj2 g g1 g2 => ?_⟩
        by_cases ej : j = i
        · subst ej
          have := r6.2.2 h j hi
          omega
        · exact r7 h j (by omega) hj2 g g1 g2) 0 (0, I, R) n (by omega) (by omega) ⟨false, D0, S0, rfl, rfl, fun _ _ _ => rfl, hD, hG, Pr.rfl' D0 S0, fun _ k hk => by omega⟩
  obtain ⟨z1, z2, z3⟩ := z
  obtain ⟨an, D, S, r1, r2, r3, r4, r5, r6, r7⟩ := h2
  refine ⟨an, D, S, z3, ?_, r3, r4, r5, r6, r7⟩
  have h1' : l_Md_looksFrom_55 n n 0 0 I R = some (z1, z2, z3) := h1
  have r1' : z1 = b2i an := r1
  have r2' : z2 = I := r2
  rw [h1', r1', r2']
theorem whileM {n m st p0 : Nat} {cn : Nat → Nat → Bool} {mn : Nat → Nat → Nat} {I : Nat → Int32} (hn : 1000 ≤ n) (hm : m ≤ 6) (hp0 : p0 < 2 * 2 ^ m) (hmn : ∀ g w, mn g w ≤ 1050) :
    ∀ (B : Nat) (D0 S0 : Nat → Nat) (R : Nat → Nat → Int32) (k : Nat), sm (fun k => D0 k + S0 k) 128 < B → B < k → R 1 0 = nI m → csOK R m st cn mn → DSok R D0 S0 → Gd m st cn mn p0 D0 S0 →
    ∃ D S R', l_Md_looksFrom_47 n k 1 I R = some (I, R') ∧ (∀ q, q ≠ 14 → q ≠ 15 → R' q = R q) ∧ DSok R' D S ∧ Gd m st cn mn p0 D S ∧ (∀ k, k < 128 → D k ≤ D0 k ∧ S k ≤ S0 k) ∧ (∀ k, k < 128 → (D k < 1000000 ∨ S k < 1000000) → ∀ g, 1 ≤ g → g < 2 ^ m → Cl m st cn mn D S k g) := by
  intro B
  induction B with
  | zero => intro D0 S0 R k h; omega
  | succ B ih =>
    intro D0 S0 R k hB hk h0 hc hD hG
    have h64 := q_p2 m (by omega)
    obtain ⟨k, rfl⟩ : ∃ k', k = k' + 1 := ⟨k - 1, by omega⟩
    obtain ⟨an, D, S, R', c1, c2, c3, c4, c5, c6⟩ := roundM (I := I) hn hm hp0 h0 hc hmn hD hG
    rw [l_Md_looksFrom_47, if_neg (by decide), c1]
    show ∃ (D S : Nat → Nat) (R2 : Nat → Nat → Int32), l_Md_looksFrom_47 n k (b2i an) I R' = some (I, R2) ∧ _
    cases an
    · obtain ⟨k, rfl⟩ : ∃ k', k = k' + 1 := ⟨k - 1, by omega⟩
      rw [l_Md_looksFrom_47, if_pos (show b2i false = 0 from rfl)]
      refine ⟨D, S, R', rfl, c2, c3, c4, c5.1, fun j hj hj2 g g1 g2 => ?_⟩
      have e := c5.2.2 rfl
      exact Cl_cg hj (by omega) e (c6 rfl j hj (by have := e j hj; omega) g g1 g2)
    · obtain ⟨j, hj, hlt⟩ := c5.2.1 rfl
      have hs : sm (fun k => D k + S k) 128 < sm (fun k => D0 k + S0 k) 128 := sm_lt 128 (fun k hk => by have := c5.1 k hk; omega) ⟨j, hj, by have := c5.1 j hj; omega⟩
      obtain ⟨D2, S2, R2, d1, d2, d3, d4, d5, d6⟩ := ih D S R' k (by omega) (by omega) (by rw [c2 1 (by decide) (by decide), h0]) (fun g w hg hw => by rw [c2 13 (by decide) (by decide)]; exact hc g w hg hw) c3 c4
      refine ⟨D2, S2, R2, d1, fun q q1 q2 => by rw [d2 q q1 q2, c2 q q1 q2], d3, d4, fun k hk => ?_, d6⟩
      have a := d5 k hk; have b := c5.1 k hk; omega
