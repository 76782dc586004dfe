/-! ===== the least from a place, by the model ===== -/
def kp (p : Nat) : Nat := p / 2 + 64 * (p % 2)
theorem pk_kp {p : Nat} (h : p < 128) : pk2 (kp p) = p := by unfold pk2 kp; omega
theorem kp_pk {k : Nat} (h : k < 128) : kp (pk2 k) = k := by unfold pk2 kp; omega
theorem kp_lt {p : Nat} (h : p < 128) : kp p < 128 := by unfold kp; omega
theorem wk_q {m st tn : Nat} {cn : Nat → Nat → Bool} {ct : Nat → Nat → Nat} : ∀ (i p q c : Nat), p < 2 * 2 ^ m → wk (CE m st cn ct tn) i p q c → q < 2 * 2 ^ m
  | 0, p, q, c, hp, h => by obtain ⟨rfl, _⟩ := h; exact hp
  | i + 1, p, q, c, hp, h => by
    obtain ⟨x, d, c', a1, a2, a3⟩ := h
    exact wk_q i x q c' (CE_q a1) a2
/-- what is closed is below every walk -/
theorem LBw {m st : Nat} {cn : Nat → Nat → Bool} {ct : Nat → Nat → Nat} {D : Nat → Nat} (hm : m ≤ 6) (hD : ∀ k, k < 128 → D k ≤ 1000000) (hc : ∀ k, k < 128 → D k < 1000000 → ∀ g, 1 ≤ g → g < 2 ^ m → cn g (k / 64) = true → g &&& st = 0 → hr g (k % 64) (k / 64) = true → D ((k % 64 ^^^ g) + 64 * (1 - k / 64)) ≤ D k + ct g (k / 64)) :
    ∀ (i p q c x : Nat), p < 2 * 2 ^ m → wk (CE m st cn ct 0) i p q c → D (kp p) ≤ x → D (kp q) ≤ x + c
  | 0, p, q, c, x, hp, h, hx => by obtain ⟨rfl, rfl⟩ := h; exact hx
  | i + 1, p, q, c, x, hp, h, hx => by
    have h64 := q_p2 m (by omega)
    obtain ⟨y, d, c', a1, a2, a3⟩ := h
    have hy := CE_q a1
    have key : D (kp y) ≤ x + d := by
      obtain ⟨_, g, g1, g2, g3, g4, g5, g6, g7⟩ := a1
      have hk := kp_lt (show p < 128 by omega)
      have e1 : kp p % 64 = p / 2 := by unfold kp; omega
      have e2 : kp p / 64 = p % 2 := by unfold kp; omega
      have e3 : kp y = (p / 2 ^^^ g) + 64 * (1 - p % 2) := by unfold kp; omega
      by_cases hlt : D (kp p) < 1000000
      · have h9 := hc (kp p) hk hlt g g1 g2 (by rw [e2]; exact g5) g4 (by rw [e1, e2]; exact g3)
        rw [e1, e2] at h9
        rw [e3, g7, show (p + 0) % 2 = p % 2 from rfl]
        omega
      · have := hD (kp y) (kp_lt (by omega))
        omega
    have := LBw hm hD hc i y q c' (x + d) hy a2 key
    omega
theorem init2 {n : Nat} {v1 : Int32} {I : Nat → Int32} {R : Nat → Nat → Int32} (hn : 1000 ≤ n) : ∃ R', l_Md_looksFrom_2 n v1 n 0 I R = some (I, R') ∧ (∀ q, q ≠ 14 → q ≠ 15 → R' q = R q) ∧ ∀ k, k < 128 → R' 14 k = 1000000 ∧ R' 15 k = 1000000 := by
  obtain ⟨z, h1, R', h2, h3⟩ := q_lp (fun k i (u : Nat → Nat → Int32) => l_Md_looksFrom_2 n v1 k (nI i) I u) 128 (fun i u => (∀ q, q ≠ 14 → q ≠ 15 → u q = R q) ∧ ∀ k, k < i → u 14 k = 1000000 ∧ u 15 k = 1000000) (fun z => ∃ R', z = (I, R') ∧ (∀ q, q ≠ 14 → q ≠ 15 → R' q = R q) ∧ ∀ k, k < 128 → R' 14 k = 1000000 ∧ R' 15 k = 1000000) (fun k u hu => by
      refine ⟨(I, u), ?_, u, rfl, hu⟩
      show l_Md_looksFrom_2 n v1 (k + 1) (nI 128) I u = _
      rw [l_Md_looksFrom_2, if_pos (show (128 : Int32) ≤ nI 128 by decide)]) (fun k i u hi hu => by
      have hx : ix (nI i) 128 := nI_in hi (by omega)
      show ∃ a', l_Md_looksFrom_2 n v1 (k + 1) (nI i) I u = l_Md_looksFrom_2 n v1 k (nI (i + 1)) I a' ∧ _
      rw [l_Md_looksFrom_2, if_neg (show ¬ (128 : Int32) ≤ nI i from nI_ge (b := 128) hi (by omega)), if_pos hx, if_pos hx, nI_clamp (by omega), nI_1]
      refine ⟨_, rfl, fun q q1 q2 => by rw [q_upN q2, q_upN q1]; exact hu.1 q q1 q2, fun j hj => ?_⟩
      by_cases e : j = i
      · subst e
        rw [q_upV, q_upN (by decide), q_upV]; exact ⟨rfl, rfl⟩
      · rw [q_upN (by decide), q_upE (fun q => e q.2), q_upE (fun q => e q.2), q_upN (by decide)]
        exact hu.2 j (by omega)) 0 R n (by omega) (by omega) ⟨fun _ _ _ => rfl, fun k hk => by omega⟩
  exact ⟨R', by rw [show l_Md_looksFrom_2 n v1 n 0 I R = some z from h1, h2], h3⟩
theorem fromM {n m st k0 : Nat} {cn : Nat → Nat → Bool} {mn : Nat → Nat → Nat} {I : Nat → Int32} {R : Nat → Nat → Int32} (hn : 300000000 ≤ n) (hm : m ≤ 6) (hk : k0 < 128) (hp0 : pk2 k0 < 2 * 2 ^ m) (h0 : R 1 0 = nI m) (hc : csOK R m st cn mn) (hmn : ∀ g w, mn g w ≤ 1050) :
    ∃ D S R', p_Md_looksFrom n (nI k0) I R = some (I, R') ∧ (∀ q, q ≠ 14 → q ≠ 15 → R' q = R q) ∧ DSok R' D S ∧ Gd m st cn mn (pk2 k0) D S ∧ (∀ i k c, k < 128 → wk (CE m st cn mn 0) i (pk2 k0) (pk2 k) c → D k ≤ c) ∧ (∀ i k c, k < 128 → wk (CE m st cn one2 0) i (pk2 k0) (pk2 k) c → S k ≤ c) := by
  obtain ⟨R1, a1, a2, a3⟩ := init2 (n := n) (v1 := nI k0) (I := I) (R := R) (by omega)
  unfold p_Md_looksFrom
  rw [a1]
  have hx : ix (nI k0) 128 := nI_in hk (by omega)
  show ∃ (D S : Nat → Nat) (R' : Nat → Nat → Int32), (if ix (nI k0) 128 then if ix (nI k0) 128 then (l_Md_looksFrom_47 n n 1 I (upR (upR R1 14 (nI k0).toNatClampNeg 0) 15 (nI k0).toNatClampNeg 0)).bind fun (I24, R25) => some (I24, R25) else none else none) = some (I, R') ∧ _
  rw [if_pos hx, if_pos hx, nI_clamp (by omega)]
  have hD : DSok (upR (upR R1 14 k0 0) 15 k0 0) (ud (fun _ => 1000000) k0 0) (ud (fun _ => 1000000) k0 0) := by
    intro k hk2
    by_cases e : k = k0
    · subst e
      rw [q_upV, q_upN (by decide), q_upV, ud_s]; exact ⟨rfl, rfl, by omega, by omega⟩
    · rw [q_upN (by decide), q_upE (fun q => e q.2), q_upE (fun q => e q.2), q_upN (by decide), ud_n e, (a3 k hk2).1, (a3 k hk2).2]
      exact ⟨rfl, rfl, by omega, by omega⟩
  have hG : Gd m st cn mn (pk2 k0) (ud (fun _ => 1000000) k0 0) (ud (fun _ => 1000000) k0 0) := by
    intro k hk2
    by_cases e : k = k0
    · subst e
      rw [ud_s]
      exact ⟨Or.inr ⟨0, rfl, rfl⟩, Or.inr ⟨0, rfl, rfl⟩⟩
    · rw [ud_n e]; exact ⟨Or.inl rfl, Or.inl rfl⟩
  have hsum : sm (fun k => ud (fun _ => 1000000) k0 0 k + ud (fun _ => 1000000) k0 0 k) 128 ≤ 128 * 2000000 := sm_b 128 (fun j hj => by
    have := hD j hj; omega)
  have hr1 : ∀ q, q ≠ 14 → q ≠ 15 → (upR (upR R1 14 k0 0) 15 k0 0) q = R q := fun q q1 q2 => by rw [q_upN q2, q_upN q1, a2 q q1 q2]
  obtain ⟨D, S, R', b1, b2, b3, b4, b5, b6⟩ := whileM (I := I) (n := n) (by omega) hm hp0 hmn 256000001 _ _ (upR (upR R1 14 k0 0) 15 k0 0) n (by omega) (by omega) (by rw [hr1 1 (by decide) (by decide)]; exact h0) (fun g w hg hw => by rw [hr1 13 (by decide) (by decide)]; exact hc g w hg hw) hD hG
  refine ⟨D, S, R', by rw [b1]; rfl, fun q q1 q2 => by rw [b2 q q1 q2, hr1 q q1 q2], b3, b4, fun i k c hk2 hw => ?_, fun i k c hk2 hw => ?_⟩
  · have h9 := LBw hm (fun k hk => (b3 k hk).2.2.1) (fun k hk hlt g g1 g2 g3 g4 g5 => (b6 k hk (Or.inl hlt) g g1 g2 ⟨⟨g1, g2, g3, g4⟩, g5⟩).1) i (pk2 k0) (pk2 k) c 0 hp0 hw (by rw [kp_pk hk]; have := (b5 k0 hk).1; rw [ud_s] at this; exact this)
    rw [kp_pk hk2] at h9
    omega
  · have h9 := LBw (ct := one2) hm (fun k hk => (b3 k hk).2.2.2) (fun k hk hlt g g1 g2 g3 g4 g5 => (b6 k hk (Or.inr hlt) g g1 g2 ⟨⟨g1, g2, g3, g4⟩, g5⟩).2) i (pk2 k0) (pk2 k) c 0 hp0 hw (by rw [kp_pk hk]; have := (b5 k0 hk).2; rw [ud_s] at this; exact this)
    rw [kp_pk hk2] at h9
    omega
theorem leastOf14 {n g : Nat} {D : Nat → Nat} {I : Nat → Int32} {R : Nat → Nat → Int32} (hn : 1000 ≤ n) (hg : g < 64) (hD : ∀ k, k < 128 → R 14 k = nI (D k) ∧ D k ≤ 1000000) :
    ∃ v, p_Md_leastOf_ad14 n (nI g) I R = some (nI v) ∧ v ≤ 1000000 ∧ (∀ k, k < 128 → k % 64 &&& g = g → v ≤ D k) ∧ (v = 1000000 ∨ ∃ k, k < 128 ∧ k % 64 &&& g = g ∧ v = D k) := by
  obtain ⟨z, h1, v, h2, h3⟩ := q_lp (fun k i (x : Int32) => l_Md_leastOf_ad14_6 n (nI g) I R k x (nI i)) 128 (fun i x => ∃ v, x = nI v ∧ v ≤ 1000000 ∧ (∀ k, k < i → k % 64 &&& g = g → v ≤ D k) ∧ (v = 1000000 ∨ ∃ k, k < 128 ∧ k % 64 &&& g = g ∧ v = D k)) (fun z => ∃ v, z = nI v ∧ v ≤ 1000000 ∧ (∀ k, k < 128 → k % 64 &&& g = g → v ≤ D k) ∧ (v = 1000000 ∨ ∃ k, k < 128 ∧ k % 64 &&& g = g ∧ v = D k)) (fun k x hx => by
      refine ⟨x, ?_, hx⟩
      show l_Md_leastOf_ad14_6 n (nI g) I R (k + 1) x (nI 128) = _
      rw [l_Md_leastOf_ad14_6, if_pos (show (128 : Int32) ≤ nI 128 by decide)]) (fun k i x hi hx => by
      obtain ⟨v, rfl, hv, hv2, hv3⟩ := hx
      show ∃ a', l_Md_leastOf_ad14_6 n (nI g) I R (k + 1) (nI v) (nI i) = l_Md_leastOf_ad14_6 n (nI g) I R k a' (nI (i + 1)) ∧ _
      have e1 : nI i - nI i / (64 : Int32) * 64 = nI (i % 64) := pk_rem (d := 64) (by omega) (by omega) (by omega)
      have hx : ix (nI i) 128 := nI_in hi (by omega)
      have hand : i % 64 &&& g < 64 := Nat.lt_of_le_of_lt Nat.and_le_right hg
      obtain ⟨d1, d2⟩ := hD i hi
      rw [l_Md_leastOf_ad14_6, if_neg (show ¬ (128 : Int32) ≤ nI i from nI_ge (b := 128) hi (by omega)), e1, q_and _ (by omega) _ hg, nI_1, if_pos hx, if_pos hx]
      simp only [nI_clamp (show i < 2 ^ 31 by omega)]
      rw [d1]
      by_cases hs : i % 64 &&& g = g
      · rw [if_pos (show nI (i % 64 &&& g) = nI g by rw [hs])]
        by_cases hle : v ≤ D i
        · rw [if_pos (nI_le hle (by omega))]
          refine ⟨nI v, rfl, v, rfl, hv, fun k hk hk2 => ?_, hv3⟩
          by_cases e : k = i
          · rw [e]; exact hle
          · exact hv2 k (by omega) hk2
        · rw [if_neg (nI_ge (by omega) (by omega))]
          refine ⟨nI (D i), rfl, D i, rfl, d2, fun k hk hk2 => ?_, Or.inr ⟨i, hi, hs, rfl⟩⟩
          by_cases e : k = i
          · rw [e]; exact Nat.le_refl _
          · have := hv2 k (by omega) hk2; omega
      · rw [if_neg (show ¬ nI (i % 64 &&& g) = nI g from fun q => hs ((nI_eq (by omega) (by omega)).mp q))]
        refine ⟨nI v, rfl, v, rfl, hv, fun k hk hk2 => ?_, hv3⟩
        by_cases e : k = i
        · rw [e] at hk2; exact absurd hk2 hs
        · exact hv2 k (by omega) hk2) 0 (nI 1000000) n (by omega) (by omega) ⟨1000000, rfl, Nat.le_refl _, fun k hk => by omega, Or.inl rfl⟩
  refine ⟨v, ?_, h3⟩
  unfold p_Md_leastOf_ad14
  have h1' : l_Md_leastOf_ad14_6 n (nI g) I R n 1000000 0 = some z := h1
  rw [h1', h2]
  rfl
theorem leastOf15 {n g : Nat} {D : Nat → Nat} {I : Nat → Int32} {R : Nat → Nat → Int32} (hn : 1000 ≤ n) (hg : g < 64) (hD : ∀ k, k < 128 → R 15 k = nI (D k) ∧ D k ≤ 1000000) :
    ∃ v, p_Md_leastOf_ad15 n (nI g) I R = some (nI v) ∧ v ≤ 1000000 ∧ (∀ k, k < 128 → k % 64 &&& g = g → v ≤ D k) ∧ (v = 1000000 ∨ ∃ k, k < 128 ∧ k % 64 &&& g = g ∧ v = D k) := by
  obtain ⟨z, h1, v, h2, h3⟩ := q_lp (fun k i (x : Int32) => l_Md_leastOf_ad15_6 n (nI g) I R k x (nI i)) 128 (fun i x => ∃ v, x = nI v ∧ v ≤ 1000000 ∧ (∀ k, k < i → k % 64 &&& g = g → v ≤ D k) ∧ (v = 1000000 ∨ ∃ k, k < 128 ∧ k % 64 &&& g = g ∧ v = D k)) (fun z => ∃ v, z = nI v ∧ v ≤ 1000000 ∧ (∀ k, k < 128 → k % 64 &&& g = g → v ≤ D k) ∧ (v = 1000000 ∨ ∃ k, k < 128 ∧ k % 64 &&& g = g ∧ v = D k)) (fun k x hx => by
      refine ⟨x, ?_, hx⟩
      show l_Md_leastOf_ad15_6 n (nI g) I R (k + 1) x (nI 128) = _
      rw [l_Md_leastOf_ad15_6, if_pos (show (128 : Int32) ≤ nI 128 by decide)]) (fun k i x hi hx => by
      obtain ⟨v, rfl, hv, hv2, hv3⟩ := hx
      show ∃ a', l_Md_leastOf_ad15_6 n (nI g) I R (k + 1) (nI v) (nI i) = l_Md_leastOf_ad15_6 n (nI g) I R k a' (nI (i + 1)) ∧ _
      have e1 : nI i - nI i / (64 : Int32) * 64 = nI (i % 64) := pk_rem (d := 64) (by omega) (by omega) (by omega)
      have hx : ix (nI i) 128 := nI_in hi (by omega)
      have hand : i % 64 &&& g < 64 := Nat.lt_of_le_of_lt Nat.and_le_right hg
      obtain ⟨d1, d2⟩ := hD i hi
      rw [l_Md_leastOf_ad15_6, if_neg (show ¬ (128 : Int32) ≤ nI i from nI_ge (b := 128) hi (by omega)), e1, q_and _ (by omega) _ hg, nI_1, if_pos hx, if_pos hx]
      simp only [nI_clamp (show i < 2 ^ 31 by omega)]
      rw [d1]
      by_cases hs : i % 64 &&& g = g
      · rw [if_pos (show nI (i % 64 &&& g) = nI g by rw [hs])]
        by_cases hle : v ≤ D i
        · rw [if_pos (nI_le hle (by omega))]
          refine ⟨nI v, rfl, v, rfl, hv, fun k hk hk2 => ?_, hv3⟩
          by_cases e : k = i
          · rw [e]; exact hle
          · exact hv2 k (by omega) hk2
        · rw [if_neg (nI_ge (by omega) (by omega))]
          refine ⟨nI (D i), rfl, D i, rfl, d2, fun k hk hk2 => ?_, Or.inr ⟨i, hi, hs, rfl⟩⟩
          by_cases e : k = i
          · rw [e]; exact Nat.le_refl _
          · have := hv2 k (by omega) hk2; omega
      · rw [if_neg (show ¬ nI (i % 64 &&& g) = nI g from fun q => hs ((nI_eq (by omega) (by omega)).mp q))]
        refine ⟨nI v, rfl, v, rfl, hv, fun k hk hk2 => ?_, hv3⟩
        by_cases e : k = i
        · rw [e] at hk2; exact absurd hk2 hs
        · exact hv2 k (by omega) hk2) 0 (nI 1000000) n (by omega) (by omega) ⟨1000000, rfl, Nat.le_refl _, fun k hk => by omega, Or.inl rfl⟩
  refine ⟨v, ?_, h3⟩
  unfold p_Md_leastOf_ad15
  have h1' : l_Md_leastOf_ad15_6 n (nI g) I R n 1000000 0 = some z := h1
  rw [h1', h2]
  rfl
/-- the least cost of a walk from p0 to all of g over; 1000000: none -/
def LeS (e : Nat → Nat → Nat → Prop) (p0 g v : Nat) : Prop := v ≤ 1000000 ∧ (∀ i q c, wk e i p0 q c → q / 2 &&& g = g → v ≤ c) ∧ (v = 1000000 ∨ ∃ i q, wk e i p0 q v ∧ q / 2 &&& g = g)
theorem LeS_of {m st k0 g v : Nat} {cn : Nat → Nat → Bool} {ct : Nat → Nat → Nat} {D : Nat → Nat} (hm : m ≤ 6) (hp0 : pk2 k0 < 2 * 2 ^ m) (hG : ∀ k, k < 128 → D k = 1000000 ∨ ∃ i, wk (CE m st cn ct 0) i (pk2 k0) (pk2 k) (D k)) (hB : ∀ i k c, k < 128 → wk (CE m st cn ct 0) i (pk2 k0) (pk2 k) c → D k ≤ c) (h1 : v ≤ 1000000) (h2 : ∀ k, k < 128 → k % 64 &&& g = g → v ≤ D k) (h3 : v = 1000000 ∨ ∃ k, k < 128 ∧ k % 64 &&& g = g ∧ v = D k) : LeS (CE m st cn ct 0) (pk2 k0) g v := by
  have h64 := q_p2 m (by omega)
  refine ⟨h1, fun i q c hw hq => ?_, ?_⟩
  · have hq2 := wk_q i _ _ _ hp0 hw
    have hq3 : q < 128 := by omega
    have hw' : wk (CE m st cn ct 0) i (pk2 k0) (pk2 (kp q)) c := by rw [pk_kp hq3]; exact hw
    have a1 := hB i (kp q) c (kp_lt hq3) hw'
    have a2 := h2 (kp q) (kp_lt hq3) (by rw [show kp q % 64 = q / 2 by unfold kp; omega]; exact hq)
    omega
  · rcases h3 with h | ⟨k, hk, hk2, e⟩
    · exact Or.inl h
    · rcases hG k hk with h | ⟨i, hi⟩
      · exact Or.inl (by omega)
      · refine Or.inr ⟨i, pk2 k, by rw [e]; exact hi, ?_⟩
        rw [show pk2 k / 2 = k % 64 by unfold pk2; omega]; exact hk2
theorem leastFromM {n m st k0 g be he oi : Nat} {v3 : Int32} {s : Nat → Int32} {L : List Cls} {I : Nat → Int32} {R : Nat → Nat → Int32} (hn : 300000000 ≤ n) (hL : NgM s L) (hT : tlM s be he oi) (hs : R 1 = s) (hm : m ≤ 6) (h0 : s 0 = nI m) (hV : VB s m) (hst : byI m v3 st) (hk : k0 < 128) (hp0 : pk2 k0 < 2 * 2 ^ m) (hg : g < 64) :
    ∃ v I' R', p_Md_leastFrom n (nI k0) (nI g) v3 I R = some (nI v, I', R') ∧ Lw I I' R R' ∧ csOK R' m st (cnS s m L be he) (mnS s m L) ∧ LeS (CE m st (cnS s m L be he) (mnS s m L) 0) (pk2 k0) g v := by
  obtain ⟨I1, R1, a1, a2, a3⟩ := costsM (n := n) (I := I) (by omega) hL hT hs hm h0 hV hst
  have es : R1 1 = s := by rw [a2.2 1 (by decide) (by decide) (by decide) (by decide) (by decide) (by decide), hs]
  obtain ⟨D, S, R2, b1, b2, b3, b4, b5, b6⟩ := fromM (I := I1) hn hm hk hp0 (by rw [es, h0]) a3 (fun g w => mnS_le hV hL.1 hL.2.1)
  obtain ⟨v, c1, c2, c3, c4⟩ := leastOf14 (n := n) (I := I1) (R := R2) (D := D) (by omega) hg (fun k hk => ⟨(b3 k hk).1, (b3 k hk).2.2.1⟩)
  refine ⟨v, I1, R2, ?_, a2.trans ⟨fun _ _ _ => rfl, fun q _ _ _ q14 q15 _ => b2 q q14 q15⟩, fun g w hg hw => by rw [b2 13 (by decide) (by decide)]; exact a3 g w hg hw, LeS_of hm hp0 (fun k hk => (b4 k hk).1) b5 c2 c3 c4⟩
  unfold p_Md_leastFrom
  rw [a1]
  show (p_Md_looksFrom n (nI k0) I1 R1).bind _ = _
  rw [b1]
  show (p_Md_leastOf_ad14 n (nI g) I1 R2).bind _ = _
  rw [c1]
  rfl
