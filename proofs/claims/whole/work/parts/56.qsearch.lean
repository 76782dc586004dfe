/-! ===== the class' search, to its end ===== -/
def Dj (e : Nat → Nat → Nat → Prop) (T : Nat → Prop) (np r : Nat) (M Z : Nat → Nat) : Prop :=
  (∀ t, t < np → T t → M t = 0) ∧ (∀ q, q < np → M q < 1073741824 → (∃ t i, t < np ∧ T t ∧ wk e i t q (M q)) ∧ M q ≤ r * 1050) ∧ (∀ p q d, p < np → Z p = 1 → e p q d → M q ≤ M p + d) ∧ (∀ p q, p < np → q < np → Z p = 1 → Z q = 0 → M p ≤ M q) ∧ (∀ p, p < np → Z p = 1 → M p < 1073741824) ∧ sm Z np = r
theorem Dj_step {e : Nat → Nat → Nat → Prop} {T : Nat → Prop} {np r p : Nat} {M Z M' : Nat → Nat} (h : Dj e T np r M Z) (he : ∀ p q d, e p q d → q < np ∧ d ≤ 1050) (hp : p < np) (hZ : Z p = 0) (hM : M p < 1073741824) (hl : ∀ q, q < np → Z q = 1 ∨ M p ≤ M q) (hZ1 : ∀ q, q < np → Z q ≤ 1) (m1 : ∀ q, q < np → M' q ≤ M q) (m2 : M' p = M p) (m3 : ∀ q, q < np → M' q < M q → ∃ d, e p q d ∧ M' q = M p + d) (m4 : ∀ q d, e p q d → M' q ≤ M p + d) : Dj e T np (r + 1) M' (ud Z p 1) := by
  obtain ⟨a1, a2, a3, a4, a5, a6⟩ := h
  have old : ∀ q, q < np → Z q = 1 → M' q = M q := by
    intro q hq hz
    have b1 := m1 q hq
    have b2 := a4 q p hq hp hz hZ
    apply Classical.byContradiction
    intro hc
    obtain ⟨d, d1, d2⟩ := m3 q hq (by omega)
    omega
  have oldz : ∀ q, q < np → ud Z p 1 q = 1 → M' q = M q := by
    intro q hq hz
    by_cases e1 : q = p
    · rw [e1]; exact m2
    · rw [ud_n e1] at hz; exact old q hq hz
  refine ⟨fun t ht hT => ?_, fun q hq hlt => ?_, fun p' q d hp' hz hed => ?_, fun p' q hp' hq hz1 hz2 => ?_, fun p' hp' hz => ?_, ?_⟩
  · have b1 := m1 t ht; have b2 := a1 t ht hT; omega
  · by_cases hc : M' q < M q
    · obtain ⟨d, d1, d2⟩ := m3 q hq hc
      obtain ⟨⟨t, i, t1, t2, t3⟩, t4⟩ := a2 p hp hM
      have := (he _ _ _ d1).2
      refine ⟨⟨t, i + 1, t1, t2, ?_⟩, ?_⟩
      · rw [d2]; exact wk_snoc _ _ _ _ _ _ t3 d1
      · rw [d2]; omega
    · have e1 : M' q = M q := by have := m1 q hq; omega
      rw [e1] at hlt ⊢
      obtain ⟨t3, t4⟩ := a2 q hq hlt
      exact ⟨t3, Nat.le_trans t4 (Nat.mul_le_mul_right 1050 (Nat.le_succ r))⟩
  · rw [oldz p' hp' hz]
    by_cases e1 : p' = p
    · subst e1; exact m4 q d hed
    · rw [ud_n e1] at hz
      have b1 := m1 q (he _ _ _ hed).1
      have b2 := a3 p' q d hp' hz hed
      omega
  · rw [oldz p' hp' hz1]
    have eq1 : q ≠ p := by
      intro e1
      rw [e1, ud_s] at hz2
      omega
    rw [ud_n eq1] at hz2
    have hpq : M p ≤ M' q := by
      by_cases hc : M' q < M q
      · obtain ⟨d, d1, d2⟩ := m3 q hq hc
        omega
      · have := m1 q hq
        rcases hl q hq with h | h
        · omega
        · omega
    by_cases e1 : p' = p
    · rw [e1]; exact hpq
    · rw [ud_n e1] at hz1
      have := a4 p' p hp' hp hz1 hZ
      omega
  · rw [oldz p' hp' hz]
    by_cases e1 : p' = p
    · rw [e1]; exact hM
    · rw [ud_n e1] at hz
      exact a5 p' hp' hz
  · rw [sm_up np hp (fun j hj => ud_n hj) (by rw [ud_s, hZ]), a6]
def Fin2 (e : Nat → Nat → Nat → Prop) (T : Nat → Prop) (np : Nat) (M : Nat → Nat) : Prop := (∀ q, q < np → M q < 1073741824 → M q ≤ 134400 ∧ ∃ t i, t < np ∧ T t ∧ wk e i t q (M q)) ∧ ∀ i t q c, t < np → T t → wk e i t q c → M q < 1073741824 ∧ M q ≤ c
theorem Dj_fin {e : Nat → Nat → Nat → Prop} {T : Nat → Prop} {np r : Nat} {M Z : Nat → Nat} (h : Dj e T np r M Z) (he : ∀ p q d, e p q d → q < np ∧ d ≤ 1050) (hr : r ≤ 128) (hz : ∀ q, q < np → Z q = 1 ∨ M q = 1073741824) : Fin2 e T np M := by
  obtain ⟨a1, a2, a3, a4, a5, a6⟩ := h
  have hb : ∀ q, q < np → M q < 1073741824 → M q ≤ 134400 := fun q hq hlt => by
    have h1 := (a2 q hq hlt).2
    have h2 : r * 1050 ≤ 128 * 1050 := Nat.mul_le_mul_right _ hr
    omega
  have key : ∀ (i p q c x : Nat), p < np → M p < 1073741824 → M p ≤ x → wk e i p q c → M q < 1073741824 ∧ M q ≤ x + c := by
    intro i
    induction i with
    | zero =>
      intro p q c x hp hlt hx hw
      obtain ⟨rfl, rfl⟩ := hw
      exact ⟨hlt, hx⟩
    | succ i ih =>
      intro p q c x hp hlt hx hw
      obtain ⟨y, d, c', b1, b2, b3⟩ := hw
      have hy := he _ _ _ b1
      have hzp : Z p = 1 := by
        rcases hz p hp with h | h
        · exact h
        · omega
      have b4 := a3 p y d hp hzp b1
      have b5 := hb p hp hlt
      have := ih y q c' (x + d) hy.1 (by omega) (by omega) b2
      omega
  refine ⟨fun q hq hlt => ⟨hb q hq hlt, (a2 q hq hlt).1⟩, fun i t q c ht hT hw => ?_⟩
  have h0 := a1 t ht hT
  have := key i t q c 0 ht (by omega) (by omega) hw
  omega
def ctf (cnt : Bool) (mn : Nat → Nat → Nat) : Nat → Nat → Nat := fun g w => if cnt = true then 1 else mn g w
theorem settleC {n m st tn : Nat} {cnt : Bool} {cn : Nat → Nat → Bool} {mn : Nat → Nat → Nat} {T : Nat → Prop} {M0 : Nat → Nat} {E : PE} {F G0 : Nat → Nat → Int32} {P : Nat → Nat → Option Nat} {N : Nat → Nat} (hn : 1000 ≤ n) (hm : m ≤ 6) (hst : st < 64) (htn : tn ≤ 1) (hF : F 3 2 = nI (2 ^ m - 1)) (hT : TbW G0 m cn mn) (hmn : ∀ g w, mn g w ≤ 1050) (hM : ∀ q, q < 2 * 2 ^ m → G0 24 q = nI (M0 q) ∧ G0 25 q = 0 ∧ ((T q ∧ M0 q = 0) ∨ (¬ T q ∧ M0 q = 1073741824))) :
    ∃ (G' : Nat → Nat → Int32) (M : Nat → Nat), p_Se_settleAll n E (nI tn) (nI st) (b2i cnt) F G0 P N = some (F, G', P, N) ∧ (∀ k, k ≠ 24 → k ≠ 25 → G' k = G0 k) ∧ (∀ q, q < 2 * 2 ^ m → G' 24 q = nI (M q) ∧ M q ≤ 1073741824) ∧ Fin2 (CE m st cn (ctf cnt mn) tn) T (2 * 2 ^ m) M := by
  have h64 := q_p2 m (by omega)
  have hnp : 2 * 2 ^ m ≤ 128 := by omega
  have he : ∀ p q d, CE m st cn (ctf cnt mn) tn p q d → q < 2 * 2 ^ m ∧ d ≤ 1050 := fun p q d h => ⟨CE_q h, by
    obtain ⟨_, g, _, _, _, _, _, _, rfl⟩ := h
    unfold ctf
    split
    · omega
    · exact hmn _ _⟩
  have ej : jmin 128 (2 * (nI (2 ^ m - 1) + 1)) = nI (2 * 2 ^ m) := by
    rw [nI_1, show 2 ^ m - 1 + 1 = 2 ^ m by omega, show (2 : Int32) * nI (2 ^ m) = nI (2 * 2 ^ m) from pk_mul 2 (2 ^ m)]
    rw [show (128 : Int32) = nI 128 from rfl, jmn (by omega) (by omega), Nat.min_eq_right (by omega)]
  obtain ⟨z, h1, G', M, h2, h3, h4, h5⟩ := q_lpr (fun k r (G : Nat → Nat → Int32) => l_Se_settleAll_22 n E (nI tn) (nI st) (b2i cnt) (nI (2 * 2 ^ m)) k (nI r) F G P N) (2 * 2 ^ m) (fun r G => ∃ (M Z : Nat → Nat), (∀ k, k ≠ 24 → k ≠ 25 → G k = G0 k) ∧ (∀ q, q < 2 * 2 ^ m → G 24 q = nI (M q) ∧ M q ≤ 1073741824 ∧ G 25 q = nI (Z q) ∧ Z q ≤ 1) ∧ Dj (CE m st cn (ctf cnt mn) tn) T (2 * 2 ^ m) r M Z) (fun z => ∃ (G' : Nat → Nat → Int32) (M : Nat → Nat), z = (F, G', P, N) ∧ (∀ k, k ≠ 24 → k ≠ 25 → G' k = G0 k) ∧ (∀ q, q < 2 * 2 ^ m → G' 24 q = nI (M q) ∧ M q ≤ 1073741824) ∧ Fin2 (CE m st cn (ctf cnt mn) tn) T (2 * 2 ^ m) M) (fun k G hG => by
      obtain ⟨M, Z, r1, r2, r3⟩ := hG
      refine ⟨(F, G, P, N), ?_, G, M, rfl, r1, fun q hq => ⟨(r2 q hq).1, (r2 q hq).2.1⟩, Dj_fin r3 he hnp (fun q hq => Or.inl (sm_full _ (fun j hj => (r2 j hj).2.2.2) r3.2.2.2.2.2 q hq))⟩
      show l_Se_settleAll_22 n E (nI tn) (nI st) (b2i cnt) (nI (2 * 2 ^ m)) (k + 1) (nI (2 * 2 ^ m)) F G P N = _
      rw [l_Se_settleAll_22, if_pos (Int32.le_refl _)]) (fun k r G hr hG => by
      obtain ⟨M, Z, r1, r2, r3⟩ := hG
      show (∃ G', l_Se_settleAll_22 n E (nI tn) (nI st) (b2i cnt) (nI (2 * 2 ^ m)) (k + 1) (nI r) F G P N = l_Se_settleAll_22 n E (nI tn) (nI st) (b2i cnt) (nI (2 * 2 ^ m)) k (nI (r + 1)) F G' P N ∧ _) ∨ (∃ z, l_Se_settleAll_22 n E (nI tn) (nI st) (b2i cnt) (nI (2 * 2 ^ m)) (k + 1) (nI r) F G P N = some z ∧ _)
      rw [l_Se_settleAll_22, if_neg (nI_ge hr (by omega))]
      rcases leastUnC (E := E) (F := F) (P := P) (N := N) hn hnp r2 with ⟨l1, l2⟩ | ⟨p, hp, l1, l2, l3, l4⟩
      · rw [l1]
        refine Or.inr ⟨(F, G, P, N), rfl, G, M, rfl, r1, fun q hq => ⟨(r2 q hq).1, (r2 q hq).2.1⟩, Dj_fin r3 he (by omega) l2⟩
      · rw [l1]
        have g25 : ∀ kk, kk ≠ 25 → upR G 25 p 1 kk = G kk := fun kk hk => q_upN hk
        have hTb : TbW (upR G 25 p 1) m cn mn := fun a w a1 a2 a3 => by
          rw [g25 (19 + w) (by omega), g25 (22 + w) (by omega), r1 (19 + w) (by omega) (by omega), r1 (22 + w) (by omega) (by omega)]; exact hT a w a1 a2 a3
        have hbp : M p ≤ 140000 := by
          have b1 := (r3.2.1 p hp l3).2
          have b2 : r * 1050 ≤ 128 * 1050 := Nat.mul_le_mul_right _ (by omega)
          omega
        obtain ⟨G2, M2, c1, c2, c3, c4, c5, c6⟩ := settle74 (n := n) (v1 := nI tn) (v2 := nI st) (v4 := nI (2 * 2 ^ m)) (v5 := nI r) (cnt := cnt) (E := E) (F := F) (G0 := upR G 25 p 1) (P := P) (N := N) hn hm hp hst htn hTb hmn (fun q hq => by rw [g25 24 (by decide)]; exact ⟨(r2 q hq).1, (r2 q hq).2.1⟩) hbp
        refine Or.inl ⟨G2, ?_, M2, ud Z p 1, fun kk k24 k25 => by rw [c2 kk k24, g25 kk k25]; exact r1 kk k24 k25, fun q hq => ?_, Dj_step r3 he hp l2 l3 l4 (fun q hq => (r2 q hq).2.2.2) (fun q hq => (c3 q hq).2) c4 c5 c6⟩
        · have hx : ix (nI p) 128 := nI_in (by omega) (by omega)
          show (if (0 : Int32) ≤ nI p then if ix (nI p) 128 then (p_Se_bankWithLantern n E F (upR G 25 (nI p).toNatClampNeg (vp_nar .boolean 1)) P N (nI p)).bind fun x7 => (l_Se_settleAll_74 n E (nI tn) (nI st) (b2i cnt) (nI (2 * 2 ^ m)) (nI r) (nI p) ((nI p &&& 1) ^^^ nI tn) (x7 &&& (nI st ^^^ (-1))) n 1 F (upR G 25 (nI p).toNatClampNeg (vp_nar .boolean 1)) P N).bind _ else none else _) = _
          rw [if_pos (nI_pos' (by omega)), if_pos hx, bankC hm hF hp, Option.bind_some, q_wy p (by omega) tn (by omega), q_dif _ (by have := bw_lt hp hm; omega) _ hst, show vp_nar .boolean (1 : Int32) = 1 from vn_b true, nI_clamp (by omega), c1, ← nI_1 r]
          rfl
        · refine ⟨(c3 q hq).1, Nat.le_trans (c3 q hq).2 (r2 q hq).2.1, ?_, ?_⟩
          · rw [c2 25 (by decide)]
            by_cases e1 : q = p
            · rw [e1, q_upV, ud_s]; rfl
            · rw [q_upE (fun h => e1 h.2), ud_n e1]; exact (r2 q hq).2.2.1
          · by_cases e1 : q = p
            · rw [e1, ud_s]; omega
            · rw [ud_n e1]; exact (r2 q hq).2.2.2) 0 G0 n (by omega) (by omega) ⟨M0, fun _ => 0, fun _ _ _ => rfl, fun q hq => ⟨(hM q hq).1, by rcases (hM q hq).2.2 with ⟨_, h⟩ | ⟨_, h⟩ <;> omega, (hM q hq).2.1, Nat.zero_le 1⟩, fun t ht hTt => by
        rcases (hM t ht).2.2 with ⟨_, h⟩ | ⟨h, _⟩
        · exact h
        · exact absurd hTt h, fun q hq hlt => by
        rcases (hM q hq).2.2 with ⟨h, h0⟩ | ⟨_, h⟩
        · exact ⟨⟨q, 0, hq, h, rfl, h0⟩, by omega⟩
        · omega, fun p q d _ h => absurd (show (0 : Nat) = 1 from h) (by decide), fun p q _ _ h => absurd (show (0 : Nat) = 1 from h) (by decide), fun p _ h => absurd (show (0 : Nat) = 1 from h) (by decide), by
        have : ∀ k, sm (fun _ => 0) k = 0 := fun k => by induction k with
          | zero => rfl
          | succ k ih => simp only [sm, ih]
        exact this _⟩
  refine ⟨G', M, ?_, h3, h4, h5⟩
  unfold p_Se_settleAll p_Go_everybody
  rw [hF, Option.bind_some, ej]
  have h1' : l_Se_settleAll_22 n E (nI tn) (nI st) (b2i cnt) (nI (2 * 2 ^ m)) n 0 F G0 P N = some z := h1
  rw [h1', h2]
theorem dif0 {x y : Nat} (hx : x < 64) : dif x y = 0 ↔ y &&& x = x := by
  rw [Nat.and_comm]
  constructor
  · intro h
    rw [q_sub]
    intro j hj
    have h9 : (dif x y).testBit j = false := by rw [h, Nat.zero_testBit]
    rw [tb_dif hx, hj, Bool.true_and] at h9
    simpa using h9
  · intro h
    rw [q_sub] at h
    apply Nat.eq_of_testBit_eq
    intro j
    rw [tb_dif hx, Nat.zero_testBit]
    cases hj : x.testBit j
    · rfl
    · rw [h j hj]; rfl
theorem measToC {n m st g : Nat} {cnt : Bool} {cn : Nat → Nat → Bool} {mn : Nat → Nat → Nat} {E : PE} {F G0 : Nat → Nat → Int32} {P : Nat → Nat → Option Nat} {N : Nat → Nat} (hn : 1000 ≤ n) (hm : m ≤ 6) (hst : st < 64) (hg : g < 64) (hF : F 3 2 = nI (2 ^ m - 1)) (hT : TbW G0 m cn mn) (hmn : ∀ g w, mn g w ≤ 1050) :
    ∃ (G' : Nat → Nat → Int32) (M : Nat → Nat), p_Se_measureTo n E (nI g) (nI st) (b2i cnt) F G0 P N = some (F, G', P, N) ∧ (∀ k, k ≠ 24 → k ≠ 25 → G' k = G0 k) ∧ (∀ q, q < 2 * 2 ^ m → G' 24 q = nI (M q) ∧ M q ≤ 1073741824) ∧ Fin2 (CE m st cn (ctf cnt mn) 1) (fun t => t / 2 &&& g = g) (2 * 2 ^ m) M := by
  have h64 := q_p2 m (by omega)
  obtain ⟨z, h1, G1, h2, h3, h4⟩ := q_lp (fun k i (G : Nat → Nat → Int32) => l_Se_measureTo_3 n E (nI g) (nI st) (b2i cnt) k (nI i) F G P N) 128 (fun i G => (∀ k, k ≠ 24 → k ≠ 25 → G k = G0 k) ∧ ∀ q, q < i → G 24 q = nI (if q / 2 &&& g = g then 0 else 1073741824) ∧ G 25 q = 0) (fun z => ∃ G', z = (F, G', P, N) ∧ (∀ k, k ≠ 24 → k ≠ 25 → G' k = G0 k) ∧ ∀ q, q < 128 → G' 24 q = nI (if q / 2 &&& g = g then 0 else 1073741824) ∧ G' 25 q = 0) (fun k G hG => by
      refine ⟨(F, G, P, N), ?_, G, rfl, hG⟩
      show l_Se_measureTo_3 n E (nI g) (nI st) (b2i cnt) (k + 1) (nI 128) F G P N = _
      rw [l_Se_measureTo_3, if_pos (show (128 : Int32) ≤ nI 128 by decide)]) (fun k i G hi hG => by
      have hx : ix (nI i) 128 := nI_in hi (by omega)
      have hdl := dif_le (x := g) (y := i / 2)
      show ∃ G', l_Se_measureTo_3 n E (nI g) (nI st) (b2i cnt) (k + 1) (nI i) F G P N = l_Se_measureTo_3 n E (nI g) (nI st) (b2i cnt) k (nI (i + 1)) F G' P N ∧ _
      have e1 : (if (nI g &&& ((nI i >>> (1 &&& 31)) ^^^ (-1))) = 0 then some 0 else some 1073741824 : Option Int32) = some (nI (if i / 2 &&& g = g then 0 else 1073741824)) := by
        rw [q_ph i hi, q_dif g hg _ (by omega)]
        by_cases h : i / 2 &&& g = g
        · rw [(dif0 hg).mpr h, if_pos (show nI 0 = 0 from rfl), if_pos h]; rfl
        · rw [if_neg (show ¬ nI (dif g (i / 2)) = 0 from fun q => h ((dif0 hg).mp ((nI_eq (a := dif g (i / 2)) (b := 0) (by omega) (by omega)).mp q))), if_neg h]; rfl
      rw [l_Se_measureTo_3, if_neg (show ¬ (128 : Int32) ≤ nI i from nI_ge (b := 128) hi (by omega)), e1, Option.bind_some, if_pos hx, if_pos hx, nI_clamp (by omega), nI_1, show vp_nar .boolean (0 : Int32) = 0 from vn_b false]
      refine ⟨_, rfl, fun q q1 q2 => by rw [q_upN q2, q_upN q1]; exact hG.1 q q1 q2, fun j hj => ?_⟩
      by_cases e : j = i
      · subst e
        rw [q_upV, q_upN (by decide), q_upV]; exact ⟨rfl, rfl⟩
      · rw [q_upN (by decide), q_upE (fun q => e q.2), q_upE (fun q => e q.2), q_upN (by decide)]
        exact hG.2 j (by omega)) 0 G0 n (by omega) (by omega) ⟨fun _ _ _ => rfl, fun q hq => by omega⟩
  have hT' : TbW G1 m cn mn := fun a w a1 a2 a3 => by
    rw [h3 (19 + w) (by omega) (by omega), h3 (22 + w) (by omega) (by omega)]; exact hT a w a1 a2 a3
  obtain ⟨G', M, c1, c2, c3, c4⟩ := settleC (n := n) (tn := 1) (st := st) (cnt := cnt) (T := fun t => t / 2 &&& g = g) (M0 := fun q => if q / 2 &&& g = g then 0 else 1073741824) (E := E) (F := F) (G0 := G1) (P := P) (N := N) hn hm hst (by omega) hF hT' hmn (fun q hq => ⟨(h4 q (by omega)).1, (h4 q (by omega)).2, by
    by_cases h : q / 2 &&& g = g
    · exact Or.inl ⟨h, if_pos h⟩
    · exact Or.inr ⟨h, if_neg h⟩⟩)
  refine ⟨G', M, ?_, fun k k1 k2 => by rw [c2 k k1 k2, h3 k k1 k2], c3, c4⟩
  unfold p_Se_measureTo
  have h1' : l_Se_measureTo_3 n E (nI g) (nI st) (b2i cnt) n 0 F G0 P N = some z := h1
  rw [h1', h2]
  show (p_Se_settleAll n E 1 (nI st) (b2i cnt) F G1 P N).bind _ = _
  rw [show p_Se_settleAll n E 1 (nI st) (b2i cnt) F G1 P N = some (F, G', P, N) from c1]
  rfl
theorem measFromC {n m p0 : Nat} {cn : Nat → Nat → Bool} {mn : Nat → Nat → Nat} {E : PE} {F G0 : Nat → Nat → Int32} {P : Nat → Nat → Option Nat} {N : Nat → Nat} (hn : 1000 ≤ n) (hm : m ≤ 6) (hp0 : p0 < 2 * 2 ^ m) (hF : F 3 2 = nI (2 ^ m - 1)) (hT : TbW G0 m cn mn) (hmn : ∀ g w, mn g w ≤ 1050) :
    ∃ (G' : Nat → Nat → Int32) (M : Nat → Nat), p_Se_measureFrom n E (nI p0) F G0 P N = some (F, G', P, N) ∧ (∀ k, k ≠ 24 → k ≠ 25 → G' k = G0 k) ∧ (∀ q, q < 2 * 2 ^ m → G' 24 q = nI (M q) ∧ M q ≤ 1073741824) ∧ Fin2 (CE m 0 cn mn 0) (fun t => t = p0) (2 * 2 ^ m) M := by
  have h64 := q_p2 m (by omega)
  obtain ⟨z, h1, G1, h2, h3, h4⟩ := q_lp (fun k i (G : Nat → Nat → Int32) => l_Se_measureFrom_2 n E (nI p0) k (nI i) F G P N) 128 (fun i G => (∀ k, k ≠ 24 → k ≠ 25 → G k = G0 k) ∧ ∀ q, q < i → G 24 q = nI (if q = p0 then 0 else 1073741824) ∧ G 25 q = 0) (fun z => ∃ G', z = (F, G', P, N) ∧ (∀ k, k ≠ 24 → k ≠ 25 → G' k = G0 k) ∧ ∀ q, q < 128 → G' 24 q = nI (if q = p0 then 0 else 1073741824) ∧ G' 25 q = 0) (fun k G hG => by
      refine ⟨(F, G, P, N), ?_, G, rfl, hG⟩
      show l_Se_measureFrom_2 n E (nI p0) (k + 1) (nI 128) F G P N = _
      rw [l_Se_measureFrom_2, if_pos (show (128 : Int32) ≤ nI 128 by decide)]) (fun k i G hi hG => by
      have hx : ix (nI i) 128 := nI_in hi (by omega)
      show ∃ G', l_Se_measureFrom_2 n E (nI p0) (k + 1) (nI i) F G P N = l_Se_measureFrom_2 n E (nI p0) k (nI (i + 1)) F G' P N ∧ _
      have e1 : (if nI i = nI p0 then some 0 else some 1073741824 : Option Int32) = some (nI (if i = p0 then 0 else 1073741824)) := by
        by_cases h : i = p0
        · rw [if_pos (show nI i = nI p0 by rw [h]), if_pos h]; rfl
        · rw [if_neg (show ¬ nI i = nI p0 from fun q => h ((nI_eq (by omega) (by omega)).mp q)), if_neg h]; rfl
      rw [l_Se_measureFrom_2, if_neg (show ¬ (128 : Int32) ≤ nI i from nI_ge (b := 128) hi (by omega)), e1, Option.bind_some, if_pos hx, if_pos hx, nI_clamp (by omega), nI_1, show vp_nar .boolean (0 : Int32) = 0 from vn_b false]
      refine ⟨_, rfl, fun q q1 q2 => by rw [q_upN q2, q_upN q1]; exact hG.1 q q1 q2, fun j hj => ?_⟩
      by_cases e : j = i
      · subst e
        rw [q_upV, q_upN (by decide), q_upV]; exact ⟨rfl, rfl⟩
      · rw [q_upN (by decide), q_upE (fun q => e q.2), q_upE (fun q => e q.2), q_upN (by decide)]
        exact hG.2 j (by omega)) 0 G0 n (by omega) (by omega) ⟨fun _ _ _ => rfl, fun q hq => by omega⟩
  have hT' : TbW G1 m cn mn := fun a w a1 a2 a3 => by
    rw [h3 (19 + w) (by omega) (by omega), h3 (22 + w) (by omega) (by omega)]; exact hT a w a1 a2 a3
  obtain ⟨G', M, c1, c2, c3, c4⟩ := settleC (n := n) (tn := 0) (st := 0) (cnt := false) (T := fun t => t = p0) (M0 := fun q => if q = p0 then 0 else 1073741824) (E := E) (F := F) (G0 := G1) (P := P) (N := N) hn hm (by omega) (by omega) hF hT' hmn (fun q hq => ⟨(h4 q (by omega)).1, (h4 q (by omega)).2, by
    by_cases h : q = p0
    · exact Or.inl ⟨h, if_pos h⟩
    · exact Or.inr ⟨h, if_neg h⟩⟩)
  refine ⟨G', M, ?_, fun k k1 k2 => by rw [c2 k k1 k2, h3 k k1 k2], c3, c4⟩
  unfold p_Se_measureFrom
  have h1' : l_Se_measureFrom_2 n E (nI p0) n 0 F G0 P N = some z := h1
  rw [h1', h2]
  show (p_Se_settleAll n E 0 0 0 F G1 P N).bind _ = _
  rw [show p_Se_settleAll n E 0 0 0 F G1 P N = some (F, G', P, N) from c1]
  rfl
def orN (v : Nat) : Int32 := if v = 1000000 then (-5) else nI v
def orV (v : Nat) : Int32 := if v = 1073741824 then (-5) else nI v
theorem measAtC {n p np : Nat} {M : Nat → Nat} {E : PE} {F G : Nat → Nat → Int32} {P : Nat → Nat → Option Nat} {N : Nat → Nat} (hnp : np ≤ 128) (hp : p < np) (hM : ∀ q, q < np → G 24 q = nI (M q) ∧ M q ≤ 1073741824) : p_Se_measureAt n E F G P N (nI p) = some (orV (M p)) := by
  unfold p_Se_measureAt orV
  have hx : ix (nI p) 128 := nI_in (by omega) (by omega)
  rw [if_neg (nI_pos (by omega)), if_neg (show ¬ (128 : Int32) ≤ nI p from nI_ge (b := 128) (by omega) (by omega)), if_pos hx, if_pos hx, nI_clamp (by omega), (hM p hp).1]
  have := (hM p hp).2
  by_cases h : M p = 1073741824
  · rw [h, if_pos (show nI 1073741824 = 1073741824 from rfl), if_pos rfl]
  · rw [if_neg (show ¬ nI (M p) = 1073741824 from fun q => h ((nI_eq (a := M p) (b := 1073741824) (by omega) (by omega)).mp q)), if_neg h]
theorem orN_M {n v : Nat} (h : v ≤ 1000000) : p_Md_orNone n (nI v) = some (orN v) := by
  unfold p_Md_orNone orN
  by_cases e : v = 1000000
  · rw [e]; rfl
  · rw [if_neg (show ¬ nI v = 1000000 from fun q => e ((nI_eq (a := v) (b := 1000000) (by omega) (by omega)).mp q)), if_neg e]; rfl
/-- least by the one, least by the other -/
theorem cmpL {m st g v p0 : Nat} {cn : Nat → Nat → Bool} {ct : Nat → Nat → Nat} {M : Nat → Nat} (hp0 : p0 < 2 * 2 ^ m) (hF : Fin2 (CE m st cn ct 1) (fun t => t / 2 &&& g = g) (2 * 2 ^ m) M) (hM : M p0 ≤ 1073741824) (hL : LeS (CE m st cn ct 0) p0 g v) : orN v = orV (M p0) ∧ (v = 1000000 ↔ M p0 = 1073741824) ∧ (v ≠ 1000000 → v = M p0) := by
  obtain ⟨a1, a2, a3⟩ := hL
  obtain ⟨b1, b2⟩ := hF
  have r10 : ∀ p q d, CE m st cn ct 1 p q d → CE m st cn ct 0 q p d := fun p q d h => CE_rev h
  have r01 : ∀ p q d, CE m st cn ct 0 p q d → CE m st cn ct 1 q p d := fun p q d h => CE_rev h
  by_cases h : M p0 < 1073741824
  · obtain ⟨c1, t, i, c2, c3, c4⟩ := b1 p0 hp0 h
    have c5 := a2 i t _ (wk_rev r10 i t p0 _ c4) c3
    rcases a3 with h9 | ⟨j, q, d1, d2⟩
    · omega
    · have hq := wk_q j p0 q v hp0 d1
      have d3 := b2 j q p0 v hq d2 (wk_rev r01 j p0 q v d1)
      have e : v = M p0 := by omega
      refine ⟨?_, by omega, fun _ => e⟩
      unfold orN orV
      rw [if_neg (by omega), if_neg (by omega), e]
  · have e : M p0 = 1073741824 := by omega
    rcases a3 with h9 | ⟨j, q, d1, d2⟩
    · refine ⟨?_, by omega, fun hc => absurd h9 hc⟩
      unfold orN orV
      rw [if_pos h9, if_pos e]
    · have hq := wk_q j p0 q v hp0 d1
      have d3 := b2 j q p0 v hq d2 (wk_rev r01 j p0 q v d1)
      omega
