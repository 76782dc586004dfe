/-! ===== the class' tables ===== -/
theorem jmx {a b : Nat} (ha : a < 2 ^ 31) (hb : b < 2 ^ 31) : jmax (nI a) (nI b) = nI (max a b) := by
  unfold jmax
  by_cases h : a < b
  · rw [if_pos (nI_lt h hb), Nat.max_eq_right (by omega)]
  · rw [if_neg (nI_nlt (by omega) ha), Nat.max_eq_left (by omega)]
theorem q_upE {G : Nat → Nat → Int32} {k j k' j' : Nat} {x : Int32} (h : ¬ (k' = k ∧ j' = j)) : upR G k j x k' j' = G k' j' := by
  by_cases e : k' = k
  · subst e
    rw [q_upS, pk_un (fun q => h ⟨rfl, q⟩)]
  · rw [q_upN e]
theorem q_upV {G : Nat → Nat → Int32} {k j : Nat} {x : Int32} : upR G k j x k j = x := by rw [q_upS, pk_us]
theorem layM39 {n m a be he : Nat} {v1 : Int32} {E : PE} {F G0 : Nat → Nat → Int32} {P : Nat → Nat → Option Nat} {N : Nat → Nat} {s : Nat → Int32} {L : List Cls} (hV : GoV E F P N s m L be he) (hB : VB s m) (hm : m ≤ 6) (ha : a < 2 ^ m) (hn : 1000 ≤ n) (g19 : G0 19 a = 0) (g20 : G0 20 a = 0) :
    ∃ G', l_Go_layMinutes_39 n E v1 (nI a) n 0 F G0 P N = some (F, G', P, N) ∧ G' 19 a = nI (mnS s m L a 0) ∧ G' 20 a = nI (mnS s m L a 1) ∧ ∀ k j, k ≠ 17 → ¬ ((k = 19 ∨ k = 20) ∧ j = a) → G' k j = G0 k j := by
  have ha6 := isS_lt hm ha
  have hok := hV.2.2.2.2.2.1.1
  have hl := hV.2.2.2.2.2.1.2.1
  obtain ⟨z, h1, h2, h3⟩ := q_lp (fun k i (G : Nat → Nat → Int32) => l_Go_layMinutes_39 n E v1 (nI a) k (nI i) F G P N) m (fun i G => G 19 a = nI (mxB (fun p => tkS s m L p a 0) a i) ∧ G 20 a = nI (mxB (fun p => tkS s m L p a 1) a i) ∧ ∀ k j, k ≠ 17 → ¬ ((k = 19 ∨ k = 20) ∧ j = a) → G k j = G0 k j) (fun z => (∃ G', z = (F, G', P, N)) ∧ z.2.1 19 a = nI (mnS s m L a 0) ∧ z.2.1 20 a = nI (mnS s m L a 1) ∧ ∀ k j, k ≠ 17 → ¬ ((k = 19 ∨ k = 20) ∧ j = a) → z.2.1 k j = G0 k j) (fun k G hG => by
      refine ⟨(F, G, P, N), ?_, ⟨G, rfl⟩, hG⟩
      show l_Go_layMinutes_39 n E v1 (nI a) (k + 1) (nI m) F G P N = _
      rw [l_Go_layMinutes_39, hV.1, if_pos (Int32.le_refl _)]) (fun k i G hi hG => by
      obtain ⟨r1, r2, r3⟩ := hG
      show ∃ G', l_Go_layMinutes_39 n E v1 (nI a) (k + 1) (nI i) F G P N = l_Go_layMinutes_39 n E v1 (nI a) k (nI (i + 1)) F G' P N ∧ _
      rw [l_Go_layMinutes_39, hV.1, if_neg (nI_ge hi (by omega))]
      by_cases hbt : bt a i = true
      · obtain ⟨G1, t1, t2⟩ := takenByC (G := G) (w := 0) hV hB hm ha hi hbt (by omega) hn
        have b0 : mxB (fun p => tkS s m L p a 0) a i ≤ 1050 := mxB_le i (fun j hj => (tkS_b hB (by omega) hok hl).2)
        have b1 : mxB (fun p => tkS s m L p a 1) a i ≤ 1050 := mxB_le i (fun j hj => (tkS_b hB (by omega) hok hl).2)
        have c0 := (tkS_b (a := a) (w := 0) hB hi hok hl).2
        have c1 := (tkS_b (a := a) (w := 1) hB hi hok hl).2
        have hx : ix (nI a) 64 := nI_in ha6 (by omega)
        obtain ⟨G2, u1, u2⟩ := takenByC (G := upR G1 19 a (nI (mxB (fun p => tkS s m L p a 0) a (i + 1)))) (w := 1) hV hB hm ha hi hbt (by omega) hn
        have t1' : p_Go_takenBy n E (nI i) (nI a) 0 F G P N = some (nI (tkS s m L i a 0), F, G1, P, N) := t1
        have u1' : p_Go_takenBy n E (nI i) (nI a) 1 F (upR G1 19 a (nI (mxB (fun p => tkS s m L p a 0) a (i + 1)))) P N = some (nI (tkS s m L i a 1), F, G2, P, N) := u1
        have em0 : jmax (G 19 a) (nI (tkS s m L i a 0)) = nI (mxB (fun p => tkS s m L p a 0) a (i + 1)) := by
          rw [r1, jmx (by omega) (by omega)]
          simp only [mxB, hbt, if_true]
        have em1 : jmax ((upR G1 19 a (nI (mxB (fun p => tkS s m L p a 0) a (i + 1)))) 20 a) (nI (tkS s m L i a 1)) = nI (mxB (fun p => tkS s m L p a 1) a (i + 1)) := by
          rw [q_upN (by decide), t2 20 (by decide), r2, jmx (by omega) (by omega)]
          simp only [mxB, hbt, if_true]
        refine ⟨upR G2 20 a (nI (mxB (fun p => tkS s m L p a 1) a (i + 1))), ?_, ?_, q_upV, ?_⟩
        · rw [if_neg (fun q => by rw [(q_bit0 a ha6 i (by omega)).mp q] at hbt; exact absurd hbt (by decide)), if_pos hx, t1']
          show ((if ix (nI a) 64 then if ix (nI a) 64 then (p_Go_takenBy n E (nI i) (nI a) 1 F (upR G1 19 (nI a).toNatClampNeg (jmax (G 19 (nI a).toNatClampNeg) (nI (tkS s m L i a 0)))) P N).bind _ else none else none)).bind _ = _
          rw [if_pos hx, if_pos hx]
          simp only [nI_clamp (show a < 2 ^ 31 by omega)]
          rw [em0, u1']
          show ((if ix (nI a) 64 then some (F, upR G2 20 a (jmax ((upR G1 19 a (nI (mxB (fun p => tkS s m L p a 0) a (i + 1)))) 20 a) (nI (tkS s m L i a 1))), P, N) else none)).bind _ = _
          rw [if_pos hx, em1, ← nI_1]
          rfl
        · rw [q_upE (by omega), u2 19 (by decide), q_upV]
        · intro kk j k17 kj
          rw [q_upE (fun q => kj ⟨Or.inr q.1, q.2⟩), u2 kk k17, q_upE (fun q => kj ⟨Or.inl q.1, q.2⟩), t2 kk k17]
          exact r3 kk j k17 kj
      · rw [if_pos ((q_bit0 a ha6 i (by omega)).mpr (Bool.eq_false_iff.mpr hbt))]
        refine ⟨G, ?_, ?_, ?_, r3⟩
        · rw [← nI_1]; rfl
        · simp only [mxB, if_neg hbt, Nat.max_zero]; exact r1
        · simp only [mxB, if_neg hbt, Nat.max_zero]; exact r2) 0 G0 n (by omega) (by omega) ⟨g19, g20, fun _ _ _ _ => rfl⟩
  obtain ⟨G', rfl⟩ := h2
  exact ⟨G', h1, h3⟩
theorem layMinC {n m so be he : Nat} {E : PE} {F G : Nat → Nat → Int32} {P : Nat → Nat → Option Nat} {N : Nat → Nat} {s : Nat → Int32} {L : List Cls} (hV : GoV E F P N s m L be he) (hB : VB s m) (hm : m ≤ 6) (hso : so < 64) (hn : 1000 ≤ n) :
    ∃ G', p_Go_layMinutes n E (nI so) F G P N = some (F, G', P, N) ∧ (∀ a w, 1 ≤ a → a < 2 ^ m → w ≤ 1 → G' (19 + w) a = if a &&& so = 0 then G (19 + w) a else nI (mnS s m L a w)) ∧ ∀ k, k ≠ 17 → k ≠ 19 → k ≠ 20 → G' k = G k := by
  have h64 := q_p2 m (by omega)
  obtain ⟨z, h1, h2, h3⟩ := q_lp (fun k i (G1 : Nat → Nat → Int32) => l_Go_layMinutes_2 n E (nI so) k (nI (i + 1)) F G1 P N) (2 ^ m - 1) (fun i G1 => (∀ a w, 1 ≤ a → a < 2 ^ m → w ≤ 1 → G1 (19 + w) a = if a ≤ i ∧ ¬ a &&& so = 0 then nI (mnS s m L a w) else G (19 + w) a) ∧ ∀ k, k ≠ 17 → k ≠ 19 → k ≠ 20 → G1 k = G k) (fun z => (∃ G', z = (F, G', P, N)) ∧ (∀ a w, 1 ≤ a → a < 2 ^ m → w ≤ 1 → z.2.1 (19 + w) a = if a &&& so = 0 then G (19 + w) a else nI (mnS s m L a w)) ∧ ∀ k, k ≠ 17 → k ≠ 19 → k ≠ 20 → z.2.1 k = G k) (fun k G1 hG => by
      refine ⟨(F, G1, P, N), ?_, ⟨G1, rfl⟩, fun a w h1 h2 h3 => ?_, hG.2⟩
      · show l_Go_layMinutes_2 n E (nI so) (k + 1) (nI (2 ^ m - 1 + 1)) F G1 P N = _
        rw [l_Go_layMinutes_2, hV.2.1, if_pos (nI_lt (by omega) (by omega))]
      · show G1 (19 + w) a = _
        rw [hG.1 a w h1 h2 h3]
        by_cases e : a &&& so = 0
        · rw [if_pos e, if_neg (fun q => q.2 e)]
        · rw [if_neg e, if_pos ⟨by omega, e⟩]) (fun k i G1 hi hG => by
      obtain ⟨r1, r2⟩ := hG
      show ∃ G', l_Go_layMinutes_2 n E (nI so) (k + 1) (nI (i + 1)) F G1 P N = l_Go_layMinutes_2 n E (nI so) k (nI (i + 1 + 1)) F G' P N ∧ _
      have ha : i + 1 < 2 ^ m := by omega
      have ha6 : i + 1 < 64 := by omega
      rw [l_Go_layMinutes_2, hV.2.1, if_neg (nI_nlt (by omega) (by omega)), q_and _ ha6 _ hso]
      have hand : (i + 1) &&& so < 64 := Nat.lt_of_le_of_lt Nat.and_le_left ha6
      by_cases e : (i + 1) &&& so = 0
      · rw [e, if_pos (show nI 0 = 0 from rfl)]
        refine ⟨G1, by rw [← nI_1 (i + 1)]; rfl, fun a w h1 h2 h3 => ?_, r2⟩
        rw [r1 a w h1 h2 h3]
        by_cases e2 : a = i + 1
        · subst e2
          rw [if_neg (fun q => q.2 e), if_neg (fun q => q.2 e)]
        · by_cases e3 : a ≤ i ∧ ¬ a &&& so = 0
          · rw [if_pos e3, if_pos ⟨by omega, e3.2⟩]
          · rw [if_neg e3, if_neg (fun q => e3 ⟨by omega, q.2⟩)]
      · have hx : ix (nI (i + 1)) 64 := nI_in ha6 (by omega)
        obtain ⟨G2, t1, t2, t3, t4⟩ := layM39 (v1 := nI so) (G0 := upR (upR G1 19 (i + 1) 0) 20 (i + 1) 0) hV hB hm ha hn (by rw [q_upE (by omega), q_upV]) q_upV
        rw [if_neg (show ¬ nI ((i + 1) &&& so) = 0 from fun q => e ((nI_eq (a := (i + 1) &&& so) (b := 0) (by omega) (by omega)).mp q)), if_pos hx, if_pos hx, nI_clamp (n := i + 1) (by omega), t1]
        refine ⟨G2, by rw [← nI_1 (i + 1)]; rfl, fun a w h1 h2 h3 => ?_, fun kk k17 k19 k20 => ?_⟩
        · by_cases e2 : a = i + 1
          · subst e2
            rw [if_pos ⟨Nat.le_refl _, e⟩]
            rcases (by omega : w = 0 ∨ w = 1) with rfl | rfl
            · exact t2
            · exact t3
          · rw [t4 (19 + w) a (by omega) (fun q => e2 q.2), q_upE (fun q => e2 q.2), q_upE (fun q => e2 q.2), r1 a w h1 h2 h3]
            by_cases e3 : a ≤ i ∧ ¬ a &&& so = 0
            · rw [if_pos e3, if_pos ⟨by omega, e3.2⟩]
            · rw [if_neg e3, if_neg (fun q => e3 ⟨by omega, q.2⟩)]
        · funext j
          rw [t4 kk j k17 (fun q => by rcases q.1 with h | h <;> contradiction), q_upN k20, q_upN k19, r2 kk k17 k19 k20]) 0 G n (by omega) (by omega) ⟨fun a w h1 h2 h3 => by rw [if_neg (by omega)], fun _ _ _ _ => rfl⟩
  obtain ⟨G', rfl⟩ := h2
  refine ⟨G', ?_, h3⟩
  unfold p_Go_layMinutes
  have h1' : l_Go_layMinutes_2 n E (nI so) n 1 F G P N = some (F, G', P, N) := h1
  rw [h1']
  rfl
theorem borneC {n m a be he : Nat} {E : PE} {F G : Nat → Nat → Int32} {P : Nat → Nat → Option Nat} {N : Nat → Nat} {s : Nat → Int32} {L : List Cls} (hV : GoV E F P N s m L be he) (hB : VB s m) (hm : m ≤ 6) (ha : a < 2 ^ m) (hbe : be ≤ 99) (hhe : he ≤ 99) (hn : 1000 ≤ n) : p_Go_isBorne n E F G P N (nI a) = some (b2i (decide (pop a ≤ be) && decide (wtS s a m ≤ he))) := by
  have ha6 := isS_lt hm ha
  have e := q_lpf (fun k i (v : Int32) => l_Go_isBorne_4 n E F G P N (nI a) k v (nI i)) m (fun i => nI (wtS s a i)) (nI (wtS s a m)) (fun k => by
    show l_Go_isBorne_4 n E F G P N (nI a) (k + 1) _ (nI m) = _
    rw [l_Go_isBorne_4, hV.1, if_pos (Int32.le_refl _)]) (fun k i hi => by
    obtain ⟨q, hq1, hq2⟩ := hV.2.2.2.1 i hi
    obtain ⟨kk, v, pc, wt, vk, vv, vp, vw, k6, v9, p1, p30, w9⟩ := hB i hi
    show l_Go_isBorne_4 n E F G P N (nI a) (k + 1) (nI (wtS s a i)) (nI i) = l_Go_isBorne_4 n E F G P N (nI a) k (nI (wtS s a (i + 1))) (nI (i + 1))
    rw [l_Go_isBorne_4, hV.1, if_neg (nI_ge hi (by omega)), if_pos (nI_in (by omega) (by omega)), nI_clamp (by omega), hq1]
    show ((if ((nI a >>> (nI i &&& 31)) &&& 1) = 1 then if eV E q = true then some (nI (wtS s a i) + eD E q 4) else none else some (nI (wtS s a i)) : Option Int32)).bind _ = _
    rw [if_pos hq2.1, hq2.2.2.2.2.2.2, vw, nI_add]
    by_cases hbt : bt a i = true
    · rw [if_pos ((q_bit1 a ha6 i (by omega)).mpr hbt)]
      simp only [wtS, hbt, if_true, vw, nI_clamp (show wt < 2 ^ 31 by omega)]
      rw [← nI_1 i]; rfl
    · rw [if_neg (fun q => hbt ((q_bit1 a ha6 i (by omega)).mp q))]
      simp only [wtS, if_neg hbt, Nat.add_zero]
      rw [← nI_1 i]; rfl) 0 n (by omega) (by omega)
  have e' : l_Go_isBorne_4 n E F G P N (nI a) n 0 0 = some (nI (wtS s a m)) := e
  unfold p_Go_isBorne
  rw [e', Option.bind_some, q_popC n a ha6, Option.bind_some]
  show (if eN E (N 3) = true then ((if eI E (N 3) 0 < nI (pop a) then some 0 else (if eI E (N 3) 1 < nI (wtS s a m) then some 0 else some 1) : Option Int32)).bind _ else none) = _
  have hw := wtS_le (a := a) hB m (Nat.le_refl _)
  have hp := q_pop_le a ha6
  rw [if_pos hV.2.2.2.2.1, hV.2.2.2.2.2.2.1, hV.2.2.2.2.2.2.2]
  by_cases h1 : pop a ≤ be
  · rw [if_neg (nI_nlt h1 (by omega)), decide_eq_true h1]
    by_cases h2 : wtS s a m ≤ he
    · rw [if_neg (nI_nlt h2 (by omega)), decide_eq_true h2]; rfl
    · rw [if_pos (nI_lt (by omega) (by omega)), decide_eq_false h2]; rfl
  · rw [if_pos (nI_lt (by omega) (by omega)), decide_eq_false h1]; rfl
theorem barredC {n m a w be he : Nat} {E : PE} {F G : Nat → Nat → Int32} {P : Nat → Nat → Option Nat} {N : Nat → Nat} {s : Nat → Int32} {L : List Cls} (hV : GoV E F P N s m L be he) (hm : m ≤ 6) (ha : a < 2 ^ m) (hn : 1000 ≤ n) :
    ∃ G', p_Go_isBarred n E (nI a) (nI w) F G P N = some (b2i (brS s L a w m), F, G', P, N) ∧ ∀ k, k ≠ 17 → G' k = G k := by
  have ha6 := isS_lt hm ha
  have hNg := hV.2.2.2.2.2.1
  obtain ⟨z, h1, G', h2, h3⟩ := q_lpr (fun k i (G1 : Nat → Nat → Int32) => l_Go_isBarred_2 n E (nI a) (nI w) k (nI i) F G1 P N) m (fun i G1 => brS s L a w i = false ∧ ∀ k, k ≠ 17 → G1 k = G k) (fun z => ∃ G', z = (b2i (brS s L a w m), F, G', P, N) ∧ ∀ k, k ≠ 17 → G' k = G k) (fun k G1 hG => by
      refine ⟨(0, F, G1, P, N), ?_, G1, by rw [hG.1]; rfl, hG.2⟩
      show l_Go_isBarred_2 n E (nI a) (nI w) (k + 1) (nI m) F G1 P N = _
      rw [l_Go_isBarred_2, hV.1, if_pos (Int32.le_refl _)]) (fun k i G1 hi hG => by
      obtain ⟨q, hq1, hq2⟩ := hV.2.2.2.1 i hi
      show (∃ G2, l_Go_isBarred_2 n E (nI a) (nI w) (k + 1) (nI i) F G1 P N = l_Go_isBarred_2 n E (nI a) (nI w) k (nI (i + 1)) F G2 P N ∧ _) ∨ (∃ z, l_Go_isBarred_2 n E (nI a) (nI w) (k + 1) (nI i) F G1 P N = some z ∧ _)
      rw [l_Go_isBarred_2, hV.1, if_neg (nI_ge hi (by omega)), if_pos (nI_in (by omega) (by omega)), nI_clamp (by omega), hq1]
      by_cases hbt : bt a i = true
      · obtain ⟨G2, t1, t2, t3⟩ := layFactsC (G := G1) (w := w) hV hm ha hq2 hi (by omega : 20 ≤ n)
        have e0 : ((some (some q) : Option (Option Nat)).bind fun q2 => (Option.elim q2 (l_Go_isBarred_2 n E (nI a) (nI w) k (nI i + 1) F G1 P N) (fun a3 => (if ((nI a >>> (nI i &&& 31)) &&& 1) = 0 then l_Go_isBarred_2 n E (nI a) (nI w) k (nI i + 1) F G1 P N else (p_Go_layFacts n E a3 (nI a) (nI w) F G1 P N).bind fun (F6, G7, P8, N9) => if eN E (N9 3) = true then (p_Ni_bars n (eT E (N9 3)) (eI E (N9 3)) (eR E (N9 3)) (G7 17)).bind fun x11 => (if x11 = 0 then l_Go_isBarred_2 n E (nI a) (nI w) k (nI i + 1) F6 G7 P8 N9 else some (1, F6, G7, P8, N9)) else none)))) = (if b2i (brr (fcs s i a w) L) = 0 then l_Go_isBarred_2 n E (nI a) (nI w) k (nI i + 1) F G2 P N else some (1, F, G2, P, N)) := by
          show (if ((nI a >>> (nI i &&& 31)) &&& 1) = 0 then _ else (p_Go_layFacts n E q (nI a) (nI w) F G1 P N).bind _) = _
          rw [if_neg (fun q => by rw [(q_bit0 a ha6 i (by omega)).mp q] at hbt; exact absurd hbt (by decide)), t1]
          show (if eN E (N 3) = true then (p_Ni_bars n (eT E (N 3)) (eI E (N 3)) (eR E (N 3)) (G2 17)).bind _ else none) = _
          rw [if_pos hV.2.2.2.2.1, barsC hNg (by omega), (slw_cg t3 L hNg.1).2]
          rfl
        rw [e0]
        cases hc : brr (fcs s i a w) L
        · refine Or.inl ⟨G2, by rw [← nI_1]; rfl, ?_, fun kk hk => by rw [t2 kk hk, hG.2 kk hk]⟩
          rw [brS_s, hG.1, hc, Bool.and_false]; rfl
        · refine Or.inr ⟨(1, F, G2, P, N), rfl, G2, ?_, fun kk hk => by rw [t2 kk hk, hG.2 kk hk]⟩
          have : brS s L a w m = true := by
            unfold brS
            rw [List.any_eq_true]
            exact ⟨i, List.mem_range.mpr hi, by rw [hbt, hc]; rfl⟩
          rw [this]; rfl
      · refine Or.inl ⟨G1, ?_, ?_, hG.2⟩
        · show (if ((nI a >>> (nI i &&& 31)) &&& 1) = 0 then l_Go_isBarred_2 n E (nI a) (nI w) k (nI i + 1) F G1 P N else _) = _
          rw [if_pos ((q_bit0 a ha6 i (by omega)).mpr (Bool.eq_false_iff.mpr hbt)), nI_1]
        · rw [brS_s, hG.1, Bool.eq_false_iff.mpr hbt]; rfl) 0 G n (by omega) (by omega) ⟨rfl, fun _ _ => rfl⟩
  refine ⟨G', ?_, h3⟩
  unfold p_Go_isBarred
  have h1' : l_Go_isBarred_2 n E (nI a) (nI w) n 0 F G P N = some z := h1
  rw [h1', h2]
theorem q_pop1 : ∀ a, a < 64 → 1 ≤ a → 1 ≤ pop a := by decide +kernel
theorem cn_eq {s : Nat → Int32} {m : Nat} {L : List Cls} {be he a w : Nat} (ha : a < 64) (h1 : 1 ≤ a) : cnS s m L be he a w = ((decide (pop a ≤ be) && decide (wtS s a m ≤ he)) && !brS s L a w m) := by
  unfold cnS
  have h2 := q_pop1 a ha h1
  have : decide (1 ≤ pop a ∧ pop a ≤ be) = decide (pop a ≤ be) := by
    by_cases h : pop a ≤ be
    · rw [decide_eq_true h, decide_eq_true ⟨h2, h⟩]
    · rw [decide_eq_false h, decide_eq_false (fun q => h q.2)]
  rw [this]
  cases decide (pop a ≤ be) <;> cases decide (wtS s a m ≤ he) <;> cases brS s L a w m <;> rfl
/-- one way of one set -/
theorem canC1 {n m a w be he : Nat} {E : PE} {F G : Nat → Nat → Int32} {P : Nat → Nat → Option Nat} {N : Nat → Nat} {s : Nat → Int32} {L : List Cls} (hV : GoV E F P N s m L be he) (hm : m ≤ 6) (ha : a < 2 ^ m) (h1 : 1 ≤ a) (hn : 1000 ≤ n) :
    ∃ G', (if b2i (decide (pop a ≤ be) && decide (wtS s a m ≤ he)) = 0 then some (0, F, G, P, N) else (p_Go_isBarred n E (nI a) (nI w) F G P N).bind fun (x10, F11, G12, P13, N14) => (if x10 = 0 then some (1, F11, G12, P13, N14) else some (0, F11, G12, P13, N14)) : Option (Int32 × (Nat → Nat → Int32) × (Nat → Nat → Int32) × (Nat → Nat → Option Nat) × (Nat → Nat))) = some (b2i (cnS s m L be he a w), F, G', P, N) ∧ ∀ k, k ≠ 17 → G' k = G k := by
  rw [cn_eq (isS_lt hm ha) h1]
  cases (decide (pop a ≤ be) && decide (wtS s a m ≤ he))
  · exact ⟨G, rfl, fun _ _ => rfl⟩
  · obtain ⟨G', t1, t2⟩ := barredC (G := G) (w := w) hV hm ha hn
    refine ⟨G', ?_, t2⟩
    rw [if_neg (by decide), t1]
    cases brS s L a w m <;> rfl
theorem layCanC {n m be he : Nat} {E : PE} {F G : Nat → Nat → Int32} {P : Nat → Nat → Option Nat} {N : Nat → Nat} {s : Nat → Int32} {L : List Cls} (hV : GoV E F P N s m L be he) (hB : VB s m) (hm : m ≤ 6) (hbe : be ≤ 99) (hhe : he ≤ 99) (hn : 1000 ≤ n) :
    ∃ G', p_Go_layCan n E F G P N = some (F, G', P, N) ∧ (∀ a w, 1 ≤ a → a < 2 ^ m → w ≤ 1 → G' (22 + w) a = b2i (cnS s m L be he a w)) ∧ ∀ k, k ≠ 17 → k ≠ 22 → k ≠ 23 → G' k = G k := by
  have h64 := q_p2 m (by omega)
  obtain ⟨z, h1, h2, h3⟩ := q_lp (fun k i (G1 : Nat → Nat → Int32) => l_Go_layCan_2 n E k (nI (i + 1)) F G1 P N) (2 ^ m - 1) (fun i G1 => (∀ a w, 1 ≤ a → a ≤ i → w ≤ 1 → G1 (22 + w) a = b2i (cnS s m L be he a w)) ∧ ∀ k, k ≠ 17 → k ≠ 22 → k ≠ 23 → G1 k = G k) (fun z => (∃ G', z = (F, G', P, N)) ∧ (∀ a w, 1 ≤ a → a < 2 ^ m → w ≤ 1 → z.2.1 (22 + w) a = b2i (cnS s m L be he a w)) ∧ ∀ k, k ≠ 17 → k ≠ 22 → k ≠ 23 → z.2.1 k = G k) (fun k G1 hG => by
      refine ⟨(F, G1, P, N), ?_, ⟨G1, rfl⟩, fun a w h1 h2 h3 => hG.1 a w h1 (by omega) h3, hG.2⟩
      show l_Go_layCan_2 n E (k + 1) (nI (2 ^ m - 1 + 1)) F G1 P N = _
      rw [l_Go_layCan_2, hV.2.1, if_pos (nI_lt (by omega) (by omega))]) (fun k i G1 hi hG => by
      obtain ⟨r1, r2⟩ := hG
      show ∃ G', l_Go_layCan_2 n E (k + 1) (nI (i + 1)) F G1 P N = l_Go_layCan_2 n E k (nI (i + 1 + 1)) F G' P N ∧ _
      have ha : i + 1 < 2 ^ m := by omega
      have ha6 : i + 1 < 64 := by omega
      have hx : ix (nI (i + 1)) 64 := nI_in ha6 (by omega)
      obtain ⟨G2, t1, t2⟩ := canC1 (G := G1) (w := 0) hV hm ha (by omega) hn
      obtain ⟨G3, u1, u2⟩ := canC1 (G := upR G2 22 (i + 1) (b2i (cnS s m L be he (i + 1) 0))) (w := 1) hV hm ha (by omega) hn
      rw [l_Go_layCan_2, hV.2.1, if_neg (nI_nlt (by omega) (by omega)), borneC hV hB hm ha hbe hhe hn]
      refine ⟨upR G3 23 (i + 1) (b2i (cnS s m L be he (i + 1) 1)), ?_, fun a w h1 h2 h3 => ?_, fun kk k17 k22 k23 => ?_⟩
      · show ((if b2i (decide (pop (i + 1) ≤ be) && decide (wtS s (i + 1) m ≤ he)) = 0 then some (0, F, G1, P, N) else (p_Go_isBarred n E (nI (i + 1)) (nI 0) F G1 P N).bind fun (x10, F11, G12, P13, N14) => (if x10 = 0 then some (1, F11, G12, P13, N14) else some (0, F11, G12, P13, N14)) : Option (Int32 × (Nat → Nat → Int32) × (Nat → Nat → Int32) × (Nat → Nat → Option Nat) × (Nat → Nat)))).bind _ = _
        rw [t1]
        show (if ix (nI (i + 1)) 64 then ((if b2i (decide (pop (i + 1) ≤ be) && decide (wtS s (i + 1) m ≤ he)) = 0 then some (0, F, upR G2 22 (nI (i + 1)).toNatClampNeg (b2i (cnS s m L be he (i + 1) 0)), P, N) else (p_Go_isBarred n E (nI (i + 1)) (nI 1) F (upR G2 22 (nI (i + 1)).toNatClampNeg (b2i (cnS s m L be he (i + 1) 0))) P N).bind fun (x10, F11, G12, P13, N14) => (if x10 = 0 then some (1, F11, G12, P13, N14) else some (0, F11, G12, P13, N14)) : Option (Int32 × (Nat → Nat → Int32) × (Nat → Nat → Int32) × (Nat → Nat → Option Nat) × (Nat → Nat)))).bind _ else none) = _
        rw [if_pos hx]
        simp only [nI_clamp (show i + 1 < 2 ^ 31 by omega)]
        rw [u1]
        show (if ix (nI (i + 1)) 64 then l_Go_layCan_2 n E k (nI (i + 1) + 1) F (upR G3 23 (i + 1) (b2i (cnS s m L be he (i + 1) 1))) P N else none) = _
        rw [if_pos hx, nI_1]
      · by_cases e2 : a = i + 1
        · subst e2
          rcases (by omega : w = 0 ∨ w = 1) with rfl | rfl
          · rw [q_upE (by omega), u2 22 (by decide)]; exact q_upV
          · exact q_upV
        · rw [q_upE (fun q => e2 q.2), u2 _ (by omega), q_upE (fun q => e2 q.2), t2 _ (by omega)]
          exact r1 a w h1 (by omega) h3
      · rw [q_upN k23, u2 kk k17, q_upN k22, t2 kk k17, r2 kk k17 k22 k23]) 0 G n (by omega) (by omega) ⟨fun a w h1 h2 h3 => by omega, fun _ _ _ _ => rfl⟩
  obtain ⟨G', rfl⟩ := h2
  refine ⟨G', ?_, h3⟩
  unfold p_Go_layCan
  have h1' : l_Go_layCan_2 n E n 1 F G P N = some (F, G', P, N) := h1
  rw [h1']
  rfl
