/-! ===== step: rule ===== -/
def eo (pc : Nat → Nat) (qk : Bool) (a : Nat) : Nat → Option Nat
  | 0 => none
  | i + 1 => cond (bt a i) (match eo pc qk a i with
      | none => some i
      | some b => cond (cond qk (decide (pc i < pc b)) (decide (pc b ≤ pc i))) (some i) (some b)) (eo pc qk a i)
def enB (b : Option Nat) : Nat := match b with
  | none => 0
  | some x => 2 ^ x
theorem eo_lt {pc : Nat → Nat} {qk : Bool} {a : Nat} : ∀ i y, eo pc qk a i = some y → y < i
  | 0, y, h => absurd h (by simp [eo])
  | i + 1, y, h => by
    simp only [eo] at h
    cases hb : bt a i
    · rw [hb, cond_false] at h
      have := eo_lt i y h; omega
    · rw [hb, cond_true] at h
      cases hn : eo pc qk a i with
      | none => rw [hn] at h; cases h; omega
      | some b =>
        rw [hn] at h
        dsimp only at h
        have hb2 := eo_lt i b hn
        cases hc : cond qk (decide (pc i < pc b)) (decide (pc b ≤ pc i))
        · rw [hc] at h; cases h; omega
        · rw [hc] at h; cases h; omega
def endE (pc : Nat → Nat) (qk : Bool) (a m : Nat) : Nat := enB (eo pc qk a m)
theorem endE_lt {pc : Nat → Nat} {qk : Bool} {a m : Nat} : endE pc qk a m < 2 ^ m := by
  unfold endE
  cases h : eo pc qk a m with
  | none => exact Nat.two_pow_pos m
  | some b => exact Nat.pow_lt_pow_right (by omega) (eo_lt m b h)
def pcs (s : Nat → Int32) : Nat → Nat := fun i => (s (22 + i)).toNatClampNeg
theorem enC {n m a be he : Nat} {qk : Bool} {E : PE} {F G : Nat → Nat → Int32} {P : Nat → Nat → Option Nat} {N : Nat → Nat} {s : Nat → Int32} {L : List Cls} (hV : GoV E F P N s m L be he) (hB : VB s m) (hm : m ≤ 6) (ha : a < 64) (hn : 1000 ≤ n) : (cond qk (p_Go_quickestOf n E F G P N (nI a)) (p_Go_slowestOf n E F G P N (nI a))) = some (nI (endE (pcs s) qk a m)) := by
  have pw : ∀ i, i < m → 1 ≤ 2 ^ i ∧ 2 ^ i < 64 := fun i hi => ⟨Nat.two_pow_pos i, q_pw i (by omega)⟩
  have st : ∀ i, i < m → ∃ q, P 10 i = some q ∧ eV E q = true ∧ eD E q 3 = nI (pcs s i) ∧ pcs s i ≤ 30 := fun i hi => by
    obtain ⟨q, hq1, hq2⟩ := hV.2.2.2.1 i hi
    obtain ⟨k, v, pc, wt, vk, vv, vp, vw, k6, v9, p1, p30, w9⟩ := hB i hi
    refine ⟨q, hq1, hq2.1, ?_, ?_⟩
    · unfold pcs
      rw [hq2.2.2.2.2.2.1, vp, nI_clamp (by omega)]
    · unfold pcs
      rw [vp, nI_clamp (by omega)]; exact p30
  cases qk
  · show p_Go_slowestOf n E F G P N (nI a) = _
    have e := q_lp (fun k i (v : Int32 × Int32) => l_Go_slowestOf_7 n E F G P N (nI a) k v.1 v.2 (nI i)) m (fun i v => v.1 = nI (enB (eo (pcs s) false a i)) ∧ ∀ b, eo (pcs s) false a i = some b → v.2 = nI (pcs s b)) (fun z => z = nI (endE (pcs s) false a m)) (fun k v hv => by
      obtain ⟨v1, v2⟩ := v
      dsimp only at hv
      refine ⟨v1, ?_, hv.1⟩
      show l_Go_slowestOf_7 n E F G P N (nI a) (k + 1) v1 v2 (nI m) = _
      rw [l_Go_slowestOf_7, hV.1, if_pos (Int32.le_refl _)]) (fun k i v hi hv => by
      obtain ⟨v1, v2⟩ := v
      dsimp only at hv
      obtain ⟨q, hq1, hq2, hq3, hq4⟩ := st i hi
      show ∃ a' : Int32 × Int32, l_Go_slowestOf_7 n E F G P N (nI a) (k + 1) v1 v2 (nI i) = l_Go_slowestOf_7 n E F G P N (nI a) k a'.1 a'.2 (nI (i + 1)) ∧ _
      rw [l_Go_slowestOf_7, hV.1, if_neg (nI_ge hi (by omega)), if_pos (nI_in (by omega) (by omega)), nI_clamp (by omega), hq1, nI_1, Option.bind_some]
      dsimp only [Option.elim]
      rw [if_pos hq2, if_pos hq2, hq3, q_one i (by omega)]
      simp only [eo]
      cases hb : bt a i
      · rw [if_pos ((q_bit0 a ha i (by omega)).mpr hb)]
        exact ⟨(v1, v2), rfl, hv⟩
      · rw [if_neg (fun q => by rw [(q_bit0 a ha i (by omega)).mp q] at hb; exact absurd hb (by decide))]
        cases hn2 : eo (pcs s) false a i with
        | none =>
          rw [hn2] at hv
          rw [if_pos (show v1 = 0 from hv.1)]
          exact ⟨(nI (2 ^ i), nI (pcs s i)), rfl, rfl, fun b hb => by cases hb; rfl⟩
        | some b =>
          rw [hn2] at hv
          have hbl := eo_lt i b hn2
          have hb30 := (st b (by omega))
          obtain ⟨_, _, _, _, hb30⟩ := hb30
          have hpw := pw b (by omega)
          rw [if_neg (show ¬ v1 = 0 by rw [hv.1]; exact nI_ne0 hpw.1 (show 2 ^ b < 2 ^ 31 by omega)), hv.2 b rfl]
          by_cases hle : pcs s b ≤ pcs s i
          · rw [if_neg (nI_nlt hle (by omega))]
            refine ⟨(nI (2 ^ i), nI (pcs s i)), rfl, ?_, fun b' hb' => ?_⟩
            · simp [hle, enB]
            · simp [hle] at hb'; rw [← hb']
          · rw [if_pos (nI_lt (by omega) (by omega))]
            refine ⟨(v1, nI (pcs s b)), rfl, ?_, fun b' hb' => ?_⟩
            · simp [hle]; exact hv.1
            · simp [hle] at hb'; rw [← hb']) 0 (0, 0) n (by omega) (by omega) ⟨rfl, fun b hb => by simp [eo] at hb⟩
    obtain ⟨z, e1, e2⟩ := e
    unfold p_Go_slowestOf
    rw [show l_Go_slowestOf_7 n E F G P N (nI a) n 0 0 0 = some z from e1, e2]
    rfl
  · show p_Go_quickestOf n E F G P N (nI a) = _
    have e := q_lp (fun k i (v : Int32 × Int32) => l_Go_quickestOf_7 n E F G P N (nI a) k v.1 v.2 (nI i)) m (fun i v => v.1 = nI (enB (eo (pcs s) true a i)) ∧ ∀ b, eo (pcs s) true a i = some b → v.2 = nI (pcs s b)) (fun z => z = nI (endE (pcs s) true a m)) (fun k v hv => by
      obtain ⟨v1, v2⟩ := v
      dsimp only at hv
      refine ⟨v1, ?_, hv.1⟩
      show l_Go_quickestOf_7 n E F G P N (nI a) (k + 1) v1 v2 (nI m) = _
      rw [l_Go_quickestOf_7, hV.1, if_pos (Int32.le_refl _)]) (fun k i v hi hv => by
      obtain ⟨v1, v2⟩ := v
      dsimp only at hv
      obtain ⟨q, hq1, hq2, hq3, hq4⟩ := st i hi
      show ∃ a' : Int32 × Int32, l_Go_quickestOf_7 n E F G P N (nI a) (k + 1) v1 v2 (nI i) = l_Go_quickestOf_7 n E F G P N (nI a) k a'.1 a'.2 (nI (i + 1)) ∧ _
      rw [l_Go_quickestOf_7, hV.1, if_neg (nI_ge hi (by omega)), if_pos (nI_in (by omega) (by omega)), nI_clamp (by omega), hq1, nI_1, Option.bind_some]
      dsimp only [Option.elim]
      rw [if_pos hq2, if_pos hq2, hq3, q_one i (by omega)]
      simp only [eo]
      cases hb : bt a i
      · rw [if_pos ((q_bit0 a ha i (by omega)).mpr hb)]
        exact ⟨(v1, v2), rfl, hv⟩
      · rw [if_neg (fun q => by rw [(q_bit0 a ha i (by omega)).mp q] at hb; exact absurd hb (by decide))]
        cases hn2 : eo (pcs s) true a i with
        | none =>
          rw [hn2] at hv
          rw [if_pos (show v1 = 0 from hv.1)]
          exact ⟨(nI (2 ^ i), nI (pcs s i)), rfl, rfl, fun b hb => by cases hb; rfl⟩
        | some b =>
          rw [hn2] at hv
          have hbl := eo_lt i b hn2
          have hb30 := (st b (by omega))
          obtain ⟨_, _, _, _, hb30⟩ := hb30
          have hpw := pw b (by omega)
          rw [if_neg (show ¬ v1 = 0 by rw [hv.1]; exact nI_ne0 hpw.1 (show 2 ^ b < 2 ^ 31 by omega)), hv.2 b rfl]
          by_cases hle : pcs s i < pcs s b
          · rw [if_neg (nI_ge hle (by omega))]
            refine ⟨(nI (2 ^ i), nI (pcs s i)), rfl, ?_, fun b' hb' => ?_⟩
            · simp [hle, enB]
            · simp [hle] at hb'; rw [← hb']
          · rw [if_pos (nI_le (by omega) (by omega))]
            refine ⟨(v1, nI (pcs s b)), rfl, ?_, fun b' hb' => ?_⟩
            · simp [hle]; exact hv.1
            · simp [hle] at hb'; rw [← hb']) 0 (0, 0) n (by omega) (by omega) ⟨rfl, fun b hb => by simp [eo] at hb⟩
    obtain ⟨z, e1, e2⟩ := e
    unfold p_Go_quickestOf
    rw [show l_Go_quickestOf_7 n E F G P N (nI a) n 0 0 0 = some z from e1, e2]
    rfl
theorem enM {n m a : Nat} {qk : Bool} {I : Nat → Int32} {R : Nat → Nat → Int32} (h0 : R 1 0 = nI m) (hB : VB (R 1) m) (hm : m ≤ 6) (ha : a < 64) (hn : 1000 ≤ n) : p_Md_endOf n (nI a) (b2i qk) I R = some (nI (endE (pcs (R 1)) qk a m)) := by
  have st : ∀ i, i < m → R 1 (22 + i) = nI (pcs (R 1) i) ∧ pcs (R 1) i ≤ 30 := fun i hi => by
    obtain ⟨k, v, pc, wt, vk, vv, vp, vw, k6, v9, p1, p30, w9⟩ := hB i hi
    unfold pcs
    rw [vp, nI_clamp (by omega)]
    exact ⟨rfl, p30⟩
  have e := q_lpf (fun k i (v : Int32) => l_Md_endOf_5 n (nI a) (b2i qk) I R k v (nI i)) m (fun i => bsI (eo (pcs (R 1)) qk a i)) (bsI (eo (pcs (R 1)) qk a m)) (fun k => by
    show l_Md_endOf_5 n (nI a) (b2i qk) I R (k + 1) _ (nI m) = _
    rw [l_Md_endOf_5, h0, if_pos (Int32.le_refl _)]) (fun k i hi => by
    show l_Md_endOf_5 n (nI a) (b2i qk) I R (k + 1) (bsI (eo (pcs (R 1)) qk a i)) (nI i) = l_Md_endOf_5 n (nI a) (b2i qk) I R k (bsI (eo (pcs (R 1)) qk a (i + 1))) (nI (i + 1))
    rw [l_Md_endOf_5, h0, if_neg (nI_ge hi (by omega)), nI_1]
    simp only [eo]
    cases hb : bt a i
    · rw [if_neg (fun q => by rw [(q_bit1 a ha i (by omega)).mp q] at hb; exact absurd hb (by decide))]
      rfl
    · rw [if_pos ((q_bit1 a ha i (by omega)).mpr hb)]
      cases hn2 : eo (pcs (R 1)) qk a i with
      | none => rfl
      | some b =>
        have hbl := eo_lt i b hn2
        obtain ⟨s1, s2⟩ := st i hi
        obtain ⟨s3, s4⟩ := st b (by omega)
        have i1 : ix (nI (22 + i)) 890 := nI_in (by omega) (by omega)
        have i2 : ix (nI (22 + b)) 890 := nI_in (by omega) (by omega)
        have ea : p_Md_isAhead n (nI i) (nI b) I R = some (b2i (decide (pcs (R 1) i < pcs (R 1) b))) := by
          unfold p_Md_isAhead
          rw [show (22 : Int32) + nI i = nI (22 + i) from nI_add 22 i, show (22 : Int32) + nI b = nI (22 + b) from nI_add 22 b, if_pos i1, if_pos i2, if_pos i1, if_pos i2, nI_clamp (by omega), nI_clamp (by omega), s1, s3, if_pos (show nI b ≤ nI i from nI_le (by omega) (by omega))]
          by_cases hlt : pcs (R 1) i < pcs (R 1) b
          · rw [if_pos (nI_lt hlt (by omega)), decide_eq_true hlt]; rfl
          · rw [if_neg (nI_nlt (by omega) (by omega)), decide_eq_false hlt, ite_self]; rfl
        show ((if nI b = (-1) then some (nI i) else (p_Md_isAhead n (nI i) (nI b) I R).bind fun x4 => (if x4 = b2i qk then some (nI i) else some (nI b)) : Option Int32)).bind _ = _
        rw [if_neg (show ¬ nI b = (-1) from fun e => nI_pos (n := b) (by omega) (by rw [e]; decide)), ea, Option.bind_some]
        dsimp only
        by_cases hlt : pcs (R 1) i < pcs (R 1) b
        · rw [decide_eq_true hlt, decide_eq_false (show ¬ pcs (R 1) b ≤ pcs (R 1) i by omega)]
          cases qk <;> rfl
        · rw [decide_eq_false hlt, decide_eq_true (show pcs (R 1) b ≤ pcs (R 1) i by omega)]
          cases qk <;> rfl) 0 n (by omega) (by omega)
  unfold p_Md_endOf
  rw [show l_Md_endOf_5 n (nI a) (b2i qk) I R n (-1) 0 = some (bsI (eo (pcs (R 1)) qk a m)) from e, Option.bind_some]
  unfold endE
  cases hn2 : eo (pcs (R 1)) qk a m with
  | none => rfl
  | some b =>
    have hbl := eo_lt m b hn2
    show ((if nI b = (-1) then some 0 else some (1 <<< (nI b &&& 31)) : Option Int32)).bind _ = _
    rw [if_neg (show ¬ nI b = (-1) from fun e => nI_pos (n := b) (by omega) (by rw [e]; decide)), q_one b (by omega)]
    rfl
def lt2I (v2 : Int32) : Int32 := (((v2 &&& (-v2)) ||| ((v2 &&& ((v2 &&& (-v2)) ^^^ (-1))) &&& (-(v2 &&& ((v2 &&& (-v2)) ^^^ (-1)))))))
def lt2 (a : Nat) : Nat := (lt2I (nI a)).toNatClampNeg
theorem q_lt2 : ∀ a, a < 64 → lt2I (nI a) = nI (lt2 a) ∧ lt2 a ≤ a := by decide +kernel
theorem q_two : ∀ a, a < 64 → ∀ i, i < 7 → ∀ j, j < 7 → (pop (a &&& ((if i = 6 then 0 else 2 ^ i) ||| (if j = 6 then 0 else 2 ^ j))) = 2 ↔ (a &&& ((if i = 6 then 0 else 2 ^ i) ||| (if j = 6 then 0 else 2 ^ j)) = ((if i = 6 then 0 else 2 ^ i) ||| (if j = 6 then 0 else 2 ^ j)) ∧ pop ((if i = 6 then 0 else 2 ^ i) ||| (if j = 6 then 0 else 2 ^ j)) = 2)) := by decide +kernel
theorem endE_7 {pc : Nat → Nat} {qk : Bool} {a m : Nat} (hm : m ≤ 6) : ∃ i, i < 7 ∧ endE pc qk a m = if i = 6 then 0 else 2 ^ i := by
  unfold endE
  cases h : eo pc qk a m with
  | none => exact ⟨6, by omega, rfl⟩
  | some b =>
    have := eo_lt m b h
    exact ⟨b, by omega, by rw [if_neg (by omega)]; rfl⟩
def twoR (pc : Nat → Nat) (m : Nat) : Nat := endE pc true (2 ^ m - 1) m ||| endE pc true (dif (2 ^ m - 1) (endE pc true (2 ^ m - 1) m)) m
def oBR (pc : Nat → Nat) (m rule a : Nat) : Nat := if rule = 2 then lt2 a else if rule = 1 ∧ 4 ≤ pop a ∧ pop (a &&& twoR pc m) = 2 then twoR pc m else if rule = 1 ∧ 3 ≤ pop a ∧ pop (a &&& twoR pc m) = 1 then endE pc false a m ||| endE pc false (dif a (endE pc false a m)) m else endE pc true a m ||| endE pc false a m
theorem oBR_lt {pc : Nat → Nat} {m rule a : Nat} (hm : m ≤ 6) (ha : a < 2 ^ m) : oBR pc m rule a < 2 ^ m := by
  unfold oBR
  split
  · have := (q_lt2 a (isS_lt hm ha)).2; omega
  · split
    · exact Nat.or_lt_two_pow endE_lt endE_lt
    · split
      · exact Nat.or_lt_two_pow endE_lt endE_lt
      · exact Nat.or_lt_two_pow endE_lt endE_lt
theorem oBC {n m a rule be he : Nat} {E : PE} {F G : Nat → Nat → Int32} {P : Nat → Nat → Option Nat} {N : Nat → Nat} {s : Nat → Int32} {L : List Cls} (hV : GoV E F P N s m L be he) (hB : VB s m) (hm : m ≤ 6) (ha : a < 2 ^ m) (hr : rule ≤ 2) (hn : 1000 ≤ n) : p_Go_overByRule n E F G P N (nI rule) (nI a) = some (nI (oBR (pcs s) m rule a)) := by
  have h64 := q_p2 m (by omega)
  have ha6 := isS_lt hm ha
  have qC : ∀ x, x < 64 → p_Go_quickestOf n E F G P N (nI x) = some (nI (endE (pcs s) true x m)) := fun x hx => enC (G := G) (qk := true) hV hB hm hx hn
  have sC : ∀ x, x < 64 → p_Go_slowestOf n E F G P N (nI x) = some (nI (endE (pcs s) false x m)) := fun x hx => enC (G := G) (qk := false) hV hB hm hx hn
  have e64 : ∀ (qk : Bool) x, endE (pcs s) qk x m < 64 := fun qk x => Nat.lt_of_lt_of_le endE_lt h64.1
  have d64 : ∀ x y, x < 64 → dif x y < 64 := fun x y hx => Nat.lt_of_le_of_lt dif_le hx
  have t64 : twoR (pcs s) m < 64 := q_or64 _ (e64 _ _) _ (e64 _ _)
  have at64 : a &&& twoR (pcs s) m < 64 := Nat.lt_of_le_of_lt Nat.and_le_left ha6
  have hp := q_pop_le a ha6
  have hp2 := q_pop_le _ at64
  unfold p_Go_overByRule oBR
  rcases (by omega : rule = 0 ∨ rule = 1 ∨ rule = 2) with rfl | rfl | rfl
  · rw [if_neg (show ¬ nI 0 = 2 by decide), if_neg (show ¬ nI 0 = 1 by decide), if_neg (show ¬ (0 : Nat) = 2 by decide), if_neg (fun q => absurd q.1 (by decide)), if_neg (fun q => absurd q.1 (by decide)), qC a ha6, Option.bind_some, sC a ha6, Option.bind_some, q_or _ (e64 _ _) _ (e64 _ _)]
  · rw [if_neg (show ¬ nI 1 = 2 by decide), if_pos (show nI 1 = 1 from rfl), if_neg (show ¬ (1 : Nat) = 2 by decide), hV.2.1, qC (2 ^ m - 1) (by omega), Option.bind_some, q_dif _ (by omega) _ (e64 _ _), qC _ (d64 _ _ (by omega)), Option.bind_some, q_popC n a ha6, Option.bind_some, q_or _ (e64 _ _) _ (e64 _ _), show endE (pcs s) true (2 ^ m - 1) m ||| endE (pcs s) true (dif (2 ^ m - 1) (endE (pcs s) true (2 ^ m - 1) m)) m = twoR (pcs s) m from rfl, q_and _ ha6 _ t64, q_popC n _ at64, Option.bind_some, qC a ha6, sC a ha6]
    simp only [Option.bind_some, q_dif a ha6 _ (e64 false a), sC _ (d64 a _ ha6), q_or _ (e64 _ _) _ (e64 _ _)]
    by_cases h4 : 4 ≤ pop a
    · rw [if_neg (show ¬ nI (pop a) < 4 from nI_nlt (b := 4) h4 (by omega))]
      by_cases h2 : pop (a &&& twoR (pcs s) m) = 2
      · rw [if_pos (show nI (pop (a &&& twoR (pcs s) m)) = 2 by rw [h2]; rfl), if_pos (show True ∧ 4 ≤ pop a ∧ pop (a &&& twoR (pcs s) m) = 2 from ⟨trivial, h4, h2⟩)]
      · rw [if_neg (show ¬ nI (pop (a &&& twoR (pcs s) m)) = 2 from fun q => h2 ((nI_eq (a := pop (a &&& twoR (pcs s) m)) (b := 2) (by omega) (by omega)).mp q)), if_neg (show ¬ nI (pop a) < 3 from nI_nlt (b := 3) (by omega) (by omega)), if_neg (show ¬ (True ∧ 4 ≤ pop a ∧ pop (a &&& twoR (pcs s) m) = 2) from fun q => h2 q.2.2)]
        by_cases h1 : pop (a &&& twoR (pcs s) m) = 1
        · rw [if_pos (show nI (pop (a &&& twoR (pcs s) m)) = 1 by rw [h1]; rfl), if_pos (show True ∧ 3 ≤ pop a ∧ pop (a &&& twoR (pcs s) m) = 1 from ⟨trivial, by omega, h1⟩)]
        · rw [if_neg (show ¬ nI (pop (a &&& twoR (pcs s) m)) = 1 from fun q => h1 ((nI_eq (a := pop (a &&& twoR (pcs s) m)) (b := 1) (by omega) (by omega)).mp q)), if_neg (show ¬ (True ∧ 3 ≤ pop a ∧ pop (a &&& twoR (pcs s) m) = 1) from fun q => h1 q.2.2)]
    · rw [if_pos (show nI (pop a) < 4 from nI_lt (b := 4) (by omega) (by omega)), if_neg (show ¬ (True ∧ 4 ≤ pop a ∧ pop (a &&& twoR (pcs s) m) = 2) from fun q => h4 q.2.1)]
      by_cases h3 : 3 ≤ pop a
      · rw [if_neg (show ¬ nI (pop a) < 3 from nI_nlt (b := 3) h3 (by omega))]
        by_cases h1 : pop (a &&& twoR (pcs s) m) = 1
        · rw [if_pos (show nI (pop (a &&& twoR (pcs s) m)) = 1 by rw [h1]; rfl), if_pos (show True ∧ 3 ≤ pop a ∧ pop (a &&& twoR (pcs s) m) = 1 from ⟨trivial, h3, h1⟩)]
        · rw [if_neg (show ¬ nI (pop (a &&& twoR (pcs s) m)) = 1 from fun q => h1 ((nI_eq (a := pop (a &&& twoR (pcs s) m)) (b := 1) (by omega) (by omega)).mp q)), if_neg (show ¬ (True ∧ 3 ≤ pop a ∧ pop (a &&& twoR (pcs s) m) = 1) from fun q => h1 q.2.2)]
      · rw [if_pos (show nI (pop a) < 3 from nI_lt (b := 3) (by omega) (by omega)), if_neg (show ¬ (True ∧ 3 ≤ pop a ∧ pop (a &&& twoR (pcs s) m) = 1) from fun q => h3 q.2.1)]
  · rw [if_pos (show nI 2 = 2 from rfl), if_pos (show (2 : Nat) = 2 from rfl)]
    exact congrArg some (q_lt2 a ha6).1
theorem oBM {n m a rule : Nat} {I : Nat → Int32} {R : Nat → Nat → Int32} (h0 : R 1 0 = nI m) (hB : VB (R 1) m) (hm : m ≤ 6) (ha : a < 2 ^ m) (hr : rule ≤ 2) (hn : 1000 ≤ n) : p_Md_goesBy n (nI rule) (nI a) I R = some (nI (oBR (pcs (R 1)) m rule a)) := by
  have h64 := q_p2 m (by omega)
  have ha6 := isS_lt hm ha
  have qM : ∀ x, x < 64 → p_Md_endOf n (nI x) 1 I R = some (nI (endE (pcs (R 1)) true x m)) := fun x hx => enM (n := n) (I := I) (qk := true) h0 hB hm hx hn
  have sM : ∀ x, x < 64 → p_Md_endOf n (nI x) 0 I R = some (nI (endE (pcs (R 1)) false x m)) := fun x hx => enM (n := n) (I := I) (qk := false) h0 hB hm hx hn
  have e64 : ∀ (qk : Bool) x, endE (pcs (R 1)) qk x m < 64 := fun qk x => Nat.lt_of_lt_of_le endE_lt h64.1
  have d64 : ∀ x y, x < 64 → dif x y < 64 := fun x y hx => Nat.lt_of_le_of_lt dif_le hx
  have t64 : twoR (pcs (R 1)) m < 64 := q_or64 _ (e64 _ _) _ (e64 _ _)
  have at64 : a &&& twoR (pcs (R 1)) m < 64 := Nat.lt_of_le_of_lt Nat.and_le_left ha6
  have hp := q_pop_le a ha6
  have hp2 := q_pop_le _ at64
  have hp3 := q_pop_le _ t64
  have h22 : pop (a &&& twoR (pcs (R 1)) m) = 2 ↔ (a &&& twoR (pcs (R 1)) m = twoR (pcs (R 1)) m ∧ pop (twoR (pcs (R 1)) m) = 2) := by
    obtain ⟨i, hi, ei⟩ := endE_7 (pc := pcs (R 1)) (qk := true) (a := 2 ^ m - 1) hm
    obtain ⟨j, hj, ej⟩ := endE_7 (pc := pcs (R 1)) (qk := true) (a := dif (2 ^ m - 1) (endE (pcs (R 1)) true (2 ^ m - 1) m)) hm
    have := q_two a ha6 i hi j hj
    rw [← ei, ← ej] at this
    exact this
  unfold p_Md_goesBy oBR
  rcases (by omega : rule = 0 ∨ rule = 1 ∨ rule = 2) with rfl | rfl | rfl
  · rw [if_neg (show ¬ nI 0 = 2 by decide), if_neg (show ¬ (0 : Nat) = 2 by decide), q_Mall hm h0, Option.bind_some, qM (2 ^ m - 1) (by omega), Option.bind_some, Option.bind_some, q_dif _ (by omega) _ (e64 _ _), qM _ (d64 _ _ (by omega)), Option.bind_some, sM a ha6, Option.bind_some, if_neg (show ¬ nI 0 = 1 by decide), if_neg (show ¬ nI 0 = 1 by decide), if_neg (fun q => absurd q.1 (by decide)), if_neg (fun q => absurd q.1 (by decide)), qM a ha6, Option.bind_some, q_or _ (e64 _ _) _ (e64 _ _)]
  · rw [if_neg (show ¬ nI 1 = 2 by decide), if_neg (show ¬ (1 : Nat) = 2 by decide), q_Mall hm h0, Option.bind_some, qM (2 ^ m - 1) (by omega), Option.bind_some, Option.bind_some, q_dif _ (by omega) _ (e64 _ _), qM _ (d64 _ _ (by omega)), Option.bind_some, sM a ha6, Option.bind_some, q_or _ (e64 _ _) _ (e64 _ _), show endE (pcs (R 1)) true (2 ^ m - 1) m ||| endE (pcs (R 1)) true (dif (2 ^ m - 1) (endE (pcs (R 1)) true (2 ^ m - 1) m)) m = twoR (pcs (R 1)) m from rfl, q_and _ ha6 _ t64, q_dif a ha6 _ (e64 false a), q_popM n a (by omega) ha6, q_popM n _ (by omega) at64, q_popM n _ (by omega) t64, qM a ha6, sM _ (d64 a _ ha6)]
    simp only [Option.bind_some, if_pos (show nI 1 = 1 from rfl), q_or _ (e64 _ _) _ (e64 _ _)]
    have tail : 3 ≤ pop a → (if nI (pop a) ≤ 2 then some (nI (endE (pcs (R 1)) true a m ||| endE (pcs (R 1)) false a m)) else if nI (pop (a &&& twoR (pcs (R 1)) m)) = 1 then some (nI (endE (pcs (R 1)) false a m ||| endE (pcs (R 1)) false (dif a (endE (pcs (R 1)) false a m)) m)) else some (nI (endE (pcs (R 1)) true a m ||| endE (pcs (R 1)) false a m)) : Option Int32) = some (nI (if True ∧ 3 ≤ pop a ∧ pop (a &&& twoR (pcs (R 1)) m) = 1 then endE (pcs (R 1)) false a m ||| endE (pcs (R 1)) false (dif a (endE (pcs (R 1)) false a m)) m else endE (pcs (R 1)) true a m ||| endE (pcs (R 1)) false a m)) := by
      intro h3
      rw [if_neg (show ¬ nI (pop a) ≤ 2 from nI_ge (a := 2) (by omega) (by omega))]
      by_cases h1 : pop (a &&& twoR (pcs (R 1)) m) = 1
      · rw [if_pos (show nI (pop (a &&& twoR (pcs (R 1)) m)) = 1 by rw [h1]; rfl), if_pos (show True ∧ 3 ≤ pop a ∧ pop (a &&& twoR (pcs (R 1)) m) = 1 from ⟨trivial, h3, h1⟩)]
      · rw [if_neg (show ¬ nI (pop (a &&& twoR (pcs (R 1)) m)) = 1 from fun q => h1 ((nI_eq (a := pop (a &&& twoR (pcs (R 1)) m)) (b := 1) (by omega) (by omega)).mp q)), if_neg (show ¬ (True ∧ 3 ≤ pop a ∧ pop (a &&& twoR (pcs (R 1)) m) = 1) from fun q => h1 q.2.2)]
    by_cases h4 : 4 ≤ pop a
    · rw [if_neg (show ¬ nI (pop a) ≤ 3 from nI_ge (a := 3) (by omega) (by omega))]
      by_cases hs : a &&& twoR (pcs (R 1)) m = twoR (pcs (R 1)) m
      · rw [if_pos (show nI (a &&& twoR (pcs (R 1)) m) = nI (twoR (pcs (R 1)) m) by rw [hs])]
        by_cases h2 : pop (twoR (pcs (R 1)) m) = 2
        · rw [if_pos (show nI (pop (twoR (pcs (R 1)) m)) = 2 by rw [h2]; rfl), if_pos (show True ∧ 4 ≤ pop a ∧ pop (a &&& twoR (pcs (R 1)) m) = 2 from ⟨trivial, h4, h22.mpr ⟨hs, h2⟩⟩)]
        · rw [if_neg (show ¬ nI (pop (twoR (pcs (R 1)) m)) = 2 from fun q => h2 ((nI_eq (a := pop (twoR (pcs (R 1)) m)) (b := 2) (by omega) (by omega)).mp q)), if_neg (show ¬ (True ∧ 4 ≤ pop a ∧ pop (a &&& twoR (pcs (R 1)) m) = 2) from fun q => h2 (h22.mp q.2.2).2)]
          exact tail (by omega)
      · rw [if_neg (show ¬ nI (a &&& twoR (pcs (R 1)) m) = nI (twoR (pcs (R 1)) m) from fun q => hs ((nI_eq (by omega) (by omega)).mp q)), if_neg (show ¬ (True ∧ 4 ≤ pop a ∧ pop (a &&& twoR (pcs (R 1)) m) = 2) from fun q => hs (h22.mp q.2.2).1)]
        exact tail (by omega)
    · rw [if_pos (show nI (pop a) ≤ 3 from nI_le (b := 3) (by omega) (by omega)), if_neg (show ¬ (True ∧ 4 ≤ pop a ∧ pop (a &&& twoR (pcs (R 1)) m) = 2) from fun q => h4 q.2.1)]
      by_cases h3 : 3 ≤ pop a
      · exact tail h3
      · rw [if_pos (show nI (pop a) ≤ 2 from nI_le (b := 2) (by omega) (by omega)), if_neg (show ¬ (True ∧ 3 ≤ pop a ∧ pop (a &&& twoR (pcs (R 1)) m) = 1) from fun q => h3 q.2.1)]
  · rw [if_pos (show nI 2 = 2 from rfl), if_pos (show (2 : Nat) = 2 from rfl)]
    unfold p_Md_leastTwo
    rw [Option.bind_some]
    exact congrArg some (q_lt2 a ha6).1
