/-! ===== a clause in step ===== -/
def cBody (n : Nat) (tl : Nat) (kont : (Nat → Int32) → (Nat → Nat → Int32) → Option (Int32 × MU)) (I : Nat → Int32) (R : Nat → Nat → Int32) : Option (Int32 × MU) := (p_Ni_readWord n tl I R).bind fun (x4, I2, R3) => (if 0 ≤ x4 then (if x4 = 1 then (if x4 = 0 then (p_Ni_take n tl 32 I2 R3).bind fun (x8, I6, R7) => (if x8 = 0 then some ((I6 4), I6, R7) else (p_Ni_readEitherT n tl 0 I6 R7).bind fun (x12, I10, R11) => (if x12 = 0 then some ((I10 4), I10, R11) else (p_Ni_addClause n tl x4 0 I10 R11).bind fun (I14, R15) => (kont I14 R15))) else (if x4 = 1 then (p_Ni_take n tl 32 I2 R3).bind fun (x22, I20, R21) => (if x22 = 0 then some ((I20 4), I20, R21) else (p_Ni_readEitherT n tl 0 I20 R21).bind fun (x26, I24, R25) => (if x26 = 0 then some ((I24 4), I24, R25) else (p_Ni_addClause n tl x4 0 I24 R25).bind fun (I28, R29) => (kont I28 R29))) else (p_Ni_addClause n tl x4 0 I2 R3).bind fun (I17, R18) => (kont I17 R18))) else (p_Ni_take n tl 32 I2 R3).bind fun (x33, I31, R32) => (if x33 = 0 then some ((-1), I31, R32) else (p_Ni_readNumber n tl I31 R32).bind fun (x41, I39, R40) => some (x41, I39, R40) : Option (Int32 × (Nat → Int32) × (Nat → Nat → Int32))).bind fun (x35, I36, R37) => (if 0 ≤ x35 then (if x4 = 0 then (p_Ni_take n tl 32 I36 R37).bind fun (x45, I43, R44) => (if x45 = 0 then some ((I43 4), I43, R44) else (p_Ni_readEitherT n tl 0 I43 R44).bind fun (x49, I47, R48) => (if x49 = 0 then some ((I47 4), I47, R48) else (p_Ni_addClause n tl x4 x35 I47 R48).bind fun (I51, R52) => (kont I51 R52))) else (if x4 = 1 then (p_Ni_take n tl 32 I36 R37).bind fun (x59, I57, R58) => (if x59 = 0 then some ((I57 4), I57, R58) else (p_Ni_readEitherT n tl 0 I57 R58).bind fun (x63, I61, R62) => (if x63 = 0 then some ((I61 4), I61, R62) else (p_Ni_addClause n tl x4 x35 I61 R62).bind fun (I65, R66) => (kont I65 R66))) else (p_Ni_addClause n tl x4 x35 I36 R37).bind fun (I54, R55) => (kont I54 R55))) else some ((I36 4), I36, R37))) else some ((I2 4), I2, R3))
def kNt (n tl k : Nat) (v1 : Int32) (I : Nat → Int32) (R : Nat → Nat → Int32) : Option (Int32 × MU) := if (I 4) = (nI tl) then some ((-1), I, R) else l_Ni_read_2 n tl k (v1 + 1) I R
theorem y_read_eq {n tl k : Nat} {v1 : Int32} {I : Nat → Int32} {R : Nat → Nat → Int32} : l_Ni_read_2 n tl (k + 1) v1 I R = (if 10 ≤ v1 then some ((I 4), I, R) else (if v1 ≤ 0 then cBody n tl (kNt n tl k v1) I R else (p_Ni_take n tl 59 I R).bind fun (x70, I68, R69) => (if x70 = 0 then some ((I68 4), I68, R69) else cBody n tl (kNt n tl k v1) I68 R69))) := rfl
theorem cB_f {n tl : Nat} {kont : (Nat → Int32) → (Nat → Nat → Int32) → Option (Int32 × MU)} {I I1 : Nat → Int32} {R R1 : Nat → Nat → Int32} (h : p_Ni_readWord n tl I R = some (-1, I1, R1)) : cBody n tl kont I R = some (I1 4, I1, R1) := by
  unfold cBody
  rw [h, Option.bind_some]
  dsimp only
  rw [if_neg (show ¬ (0 : Int32) ≤ -1 by decide)]
theorem cB_t {n tl w : Nat} {kont : (Nat → Int32) → (Nat → Nat → Int32) → Option (Int32 × MU)} {I I1 : Nat → Int32} {R R1 : Nat → Nat → Int32} (hw : w = 2 ∨ w = 3 ∨ w = 4) (h : p_Ni_readWord n tl I R = some (nI w, I1, R1)) : cBody n tl kont I R = ((p_Ni_take n tl 32 I1 R1).bind fun (x33, I31, R32) => (if x33 = 0 then some ((-1), I31, R32) else (p_Ni_readNumber n tl I31 R32).bind fun (x41, I39, R40) => some (x41, I39, R40) : Option (Int32 × (Nat → Int32) × (Nat → Nat → Int32)))).bind fun (x35, I36, R37) => if 0 ≤ x35 then (p_Ni_addClause n tl (nI w) x35 I36 R37).bind fun (I54, R55) => kont I54 R55 else some ((I36 4), I36, R37) := by
  unfold cBody
  rw [h, Option.bind_some]
  dsimp only
  rcases hw with rfl | rfl | rfl
  all_goals
    rw [if_pos (show (0 : Int32) ≤ nI _ by decide), if_neg (show ¬ nI _ = 1 by decide)]
    cases p_Ni_take n tl 32 I1 R1 with
    | none => rfl
    | some z =>
      rw [Option.bind_some, Option.bind_some]
      congr 1
theorem cB_s {n tl : Nat} {kont : (Nat → Int32) → (Nat → Nat → Int32) → Option (Int32 × MU)} {I I1 : Nat → Int32} {R R1 : Nat → Nat → Int32} (h : p_Ni_readWord n tl I R = some (nI 0, I1, R1)) : cBody n tl kont I R = ((p_Ni_take n tl 32 I1 R1).bind fun (x33, I31, R32) => (if x33 = 0 then some ((-1), I31, R32) else (p_Ni_readNumber n tl I31 R32).bind fun (x41, I39, R40) => some (x41, I39, R40) : Option (Int32 × (Nat → Int32) × (Nat → Nat → Int32)))).bind fun (x35, I36, R37) => if 0 ≤ x35 then (p_Ni_take n tl 32 I36 R37).bind fun (x45, I43, R44) => (if x45 = 0 then some ((I43 4), I43, R44) else (p_Ni_readEitherT n tl 0 I43 R44).bind fun (x49, I47, R48) => (if x49 = 0 then some ((I47 4), I47, R48) else (p_Ni_addClause n tl (nI 0) x35 I47 R48).bind fun (I51, R52) => kont I51 R52)) else some ((I36 4), I36, R37) := by
  unfold cBody
  rw [h, Option.bind_some]
  dsimp only
  rw [if_pos (show (0 : Int32) ≤ nI 0 by decide), if_neg (show ¬ nI 0 = 1 by decide)]
  cases p_Ni_take n tl 32 I1 R1 with
  | none => rfl
  | some z =>
    rw [Option.bind_some, Option.bind_some]
    congr 1
theorem cB_b {n tl : Nat} {kont : (Nat → Int32) → (Nat → Nat → Int32) → Option (Int32 × MU)} {I I1 : Nat → Int32} {R R1 : Nat → Nat → Int32} (h : p_Ni_readWord n tl I R = some (nI 1, I1, R1)) : cBody n tl kont I R = (p_Ni_take n tl 32 I1 R1).bind fun (x45, I43, R44) => (if x45 = 0 then some ((I43 4), I43, R44) else (p_Ni_readEitherT n tl 0 I43 R44).bind fun (x49, I47, R48) => (if x49 = 0 then some ((I47 4), I47, R48) else (p_Ni_addClause n tl (nI 1) 0 I47 R48).bind fun (I51, R52) => kont I51 R52)) := by
  unfold cBody
  rw [h, Option.bind_some]
  dsimp only
  rw [if_pos (show (0 : Int32) ≤ nI 1 by decide), if_pos (show nI 1 = 1 by decide), if_neg (show ¬ nI 1 = 0 by decide), if_pos (show nI 1 = 1 by decide)]
def F2 (k : Nat) (IM : Nat → Int32) (RM : Nat → Nat → Int32) (I : Nat → Int32) (R : Nat → Nat → Int32) : Prop := (∀ i, i ≠ 5 → i ≠ 7 → i ≠ 8 → I i = IM i) ∧ (∀ r, r ≠ 1 → R r = RM r) ∧ ∀ j, j ≠ 170 + k → j ≠ 175 + k → j ≠ 180 + k → j ≠ 185 + k → ¬ (190 + 140 * k ≤ j ∧ j < 330 + 140 * k) → R 1 j = RM 1 j
theorem F2_t {k : Nat} {IM : Nat → Int32} {RM : Nat → Nat → Int32} {I I' : Nat → Int32} {R R' : Nat → Nat → Int32} (h : F2 k IM RM I R) (h' : FM k I R I' R') : F2 k IM RM I' R' := ⟨fun i a b c => (h'.1 i a b c).trans (h.1 i a b c), fun r hr => (h'.2.1 r hr).trans (h.2.1 r hr), fun j a b c d e => (h'.2.2 j d e).trans (h.2.2 j a b c d e)⟩
def KL (T : Nat → Nat) (t k : Nat) (IM : Nat → Int32) (RM : Nat → Nat → Int32) (L : List Cls) (be he oi p : Nat) (I : Nat → Int32) (R : Nat → Nat → Int32) (I' : Nat → Int32) (R' : Nat → Nat → Int32) : Prop :=
  An T t k R I' R' ∧ p ≤ t ∧ (∀ c ∈ L, clOK c) ∧ (be ≤ 99 ∧ he ≤ 99 ∧ oi ≤ 99) ∧ ((cds L).length ≤ p ∧ (stp L).length ≤ p) ∧ (I 10 = nI L.length ∧ I 0 = nI be ∧ I 1 = nI he ∧ I 2 = nI oi) ∧ (∀ (i : Nat) (c : Cls), L[i]? = some c → R 7 i = nI c.1 ∧ R 8 i = nI c.2.1 ∧ R 9 i = nI (cds (L.take (i + 1))).length) ∧ JC I R p (cds L) I R ∧ JM k I' R' p (stp L) 0 I' R' ∧ (R' 1 (170 + k) = nI be ∧ R' 1 (175 + k) = nI he ∧ R' 1 (180 + k) = nI oi) ∧ F2 k IM RM I' R'
theorem FM_r {k : Nat} {I : Nat → Int32} {R : Nat → Nat → Int32} : FM k I R I R := ⟨fun _ _ _ _ => rfl, fun _ _ => rfl, fun _ _ _ => rfl⟩
theorem JM_self {k p o : Nat} {S : List Int32} {IM : Nat → Int32} {RM : Nat → Nat → Int32} {I : Nat → Int32} {R : Nat → Nat → Int32} (h : JM k IM RM p S o I R) : JM k I R p S o I R := ⟨FM_r, h.2⟩
theorem y_ext {n : Nat} {T : Nat → Nat} {t k : Nat} {IM : Nat → Int32} {RM : Nat → Nat → Int32} {L : List Cls} {be he oi p : Nat} {I : Nat → Int32} {R : Nat → Nat → Int32} {I' : Nat → Int32} {R' : Nat → Nat → Int32} (h : KL T t k IM RM L be he oi p I R I' R') (hL : L.length < 10) {w v p' : Nat} {cs : List Nat} (hc : clOK (w, v, cs)) {I1 : Nat → Int32} {R1 : Nat → Nat → Int32} {I2 : Nat → Int32} {R2 : Nat → Nat → Int32} (hp : p ≤ p') (hp2 : p' ≤ t) (hl1 : p + cs.length ≤ p') (hl2 : p + (stp1 (w, v, cs)).length ≤ p') (hC : JC I R p' (cds L ++ cs) I1 R1) (hM : JM k I2 R2 p' (stp L ++ stp1 (w, v, cs)) 0 I2 R2) (hF : F2 k IM RM I2 R2) (hF0 : F2 k I' R' I2 R2) (s1 : R2 1 (170 + k) = nI (if w = 2 then v else be)) (s2 : R2 1 (175 + k) = nI (if w = 3 then v else he)) (s3 : R2 1 (180 + k) = nI (if w = 4 then v else oi)) :
    ∃ I3 R3, p_Ni_addClause n t (nI w) (nI v) I1 R1 = some (I3, R3) ∧ KL T t k IM RM (L ++ [(w, v, cs)]) (if w = 2 then v else be) (if w = 3 then v else he) (if w = 4 then v else oi) p' I3 R3 I2 R2 := by
  obtain ⟨h1, h2, h3, ⟨b1, b2, b3⟩, ⟨l1, l2⟩, ⟨i1, i2, i3, i4⟩, h7, h8, h9, h10, h11⟩ := h
  obtain ⟨c1, c2, c3, c4⟩ := hc
  have c1' : w < 5 := c1
  have c2' : v ≤ 99 := c2
  obtain ⟨j1, j2, j3, j4, j5⟩ := hC
  have e10 : I1 10 = nI L.length := by rw [j1 10 (by decide) (by decide)]; exact i1
  have ec : cds (L ++ [(w, v, cs)]) = cds L ++ cs := by rw [cds_app]; simp [cds]
  have es : stp (L ++ [(w, v, cs)]) = stp L ++ stp1 (w, v, cs) := by unfold stp; rw [List.flatMap_append]; simp
  obtain ⟨I3, eI, k10, k4, k6, k0, k1, k2⟩ : ∃ I3, p_Ni_addClause n t (nI w) (nI v) I1 R1 = some (I3, upR (upR (upR R1 7 L.length (nI w)) 8 L.length (nI v)) 9 L.length (nI (cds L ++ cs).length)) ∧ I3 10 = nI (L.length + 1) ∧ I3 4 = I1 4 ∧ I3 6 = I1 6 ∧ I3 0 = nI (if w = 2 then v else be) ∧ I3 1 = nI (if w = 3 then v else he) ∧ I3 2 = nI (if w = 4 then v else oi) := by
    unfold p_Ni_addClause
    have x0 : I1 0 = nI be := by rw [j1 0 (by decide) (by decide)]; exact i2
    have x1 : I1 1 = nI he := by rw [j1 1 (by decide) (by decide)]; exact i3
    have x2 : I1 2 = nI oi := by rw [j1 2 (by decide) (by decide)]; exact i4
    rw [e10, if_pos (show nI L.length < 10 from nI_lt (b := 10) hL (by omega)), if_pos (nI_in hL (by omega)), if_pos (nI_in hL (by omega)), if_pos (nI_in hL (by omega)), nI_clamp (by omega), j4, nI_1]
    rcases (by omega : w = 0 ∨ w = 1 ∨ w = 2 ∨ w = 3 ∨ w = 4) with rfl | rfl | rfl | rfl | rfl
    · exact ⟨_, rfl, by rw [pk_us], by rw [y_ud (by decide)], by rw [y_ud (by decide)]; exact j4, by rw [y_ud (by decide)]; exact x0, by rw [y_ud (by decide)]; exact x1, by rw [y_ud (by decide)]; exact x2⟩
    · exact ⟨_, rfl, by rw [pk_us], by rw [y_ud (by decide)], by rw [y_ud (by decide)]; exact j4, by rw [y_ud (by decide)]; exact x0, by rw [y_ud (by decide)]; exact x1, by rw [y_ud (by decide)]; exact x2⟩
    · exact ⟨_, rfl, by rw [y_ud (by decide), pk_us], by rw [y_ud (by decide), y_ud (by decide)], by rw [y_ud (by decide), y_ud (by decide)]; exact j4, by rw [pk_us]; rfl, by rw [y_ud (by decide), y_ud (by decide)]; exact x1, by rw [y_ud (by decide), y_ud (by decide)]; exact x2⟩
    · exact ⟨_, rfl, by rw [y_ud (by decide), pk_us], by rw [y_ud (by decide), y_ud (by decide)], by rw [y_ud (by decide), y_ud (by decide)]; exact j4, by rw [y_ud (by decide), y_ud (by decide)]; exact x0, by rw [pk_us]; rfl, by rw [y_ud (by decide), y_ud (by decide)]; exact x2⟩
    · exact ⟨_, rfl, by rw [y_ud (by decide), pk_us], by rw [y_ud (by decide), y_ud (by decide)], by rw [y_ud (by decide), y_ud (by decide)]; exact j4, by rw [y_ud (by decide), y_ud (by decide)]; exact x0, by rw [y_ud (by decide), y_ud (by decide)]; exact x1, by rw [pk_us]; rfl⟩
  refine ⟨I3, _, eI, ⟨h1.1, h1.2.1, fun j hj => ⟨(h1.2.2.1 j hj).1, ?_, ?_⟩, ?_, ?_⟩, hp2, ?_, ⟨?_, ?_, ?_⟩, ⟨?_, ?_⟩, ⟨?_, k0, k1, k2⟩, ?_, ⟨fun _ _ _ => rfl, fun _ _ => rfl, ?_, ?_, ?_⟩, ?_, ⟨s1, s2, s3⟩, hF⟩
  · rw [q_upN (by decide), q_upN (by decide), q_upN (by decide), j2 3 (by decide)]; exact (h1.2.2.1 j hj).2.1
  · have := h1.1
    have := h1.2.1
    rw [hF0.2.2 (70 + j) (by omega) (by omega) (by omega) (by omega) (by omega)]; exact (h1.2.2.1 j hj).2.2
  · rw [hF0.1 4 (by decide) (by decide) (by decide)]; exact h1.2.2.2.1
  · rw [hF0.1 6 (by decide) (by decide) (by decide)]; exact h1.2.2.2.2
  · intro c hc
    rcases List.mem_append.mp hc with q | q
    · exact h3 c q
    · rw [List.mem_singleton.mp q]; exact ⟨c1, c2, c3, c4⟩
  · split <;> omega
  · split <;> omega
  · split <;> omega
  · rw [ec, List.length_append]; omega
  · rw [es, List.length_append]; omega
  · rw [k10, List.length_append]; rfl
  · intro i c hi
    by_cases q : i < L.length
    · rw [List.getElem?_append_left q] at hi
      obtain ⟨g1, g2, g3⟩ := h7 i c hi
      rw [q_upN (show (7 : Nat) ≠ 9 by decide), q_upN (show (7 : Nat) ≠ 8 by decide), q_upE (by omega), q_upN (show (8 : Nat) ≠ 9 by decide), q_upE (by omega), q_upN (show (8 : Nat) ≠ 7 by decide), q_upE (by omega), q_upN (show (9 : Nat) ≠ 8 by decide), q_upN (show (9 : Nat) ≠ 7 by decide), j2 7 (by decide), j2 8 (by decide), j2 9 (by decide), List.take_append_of_le_length (by omega)]
      exact ⟨g1, g2, g3⟩
    · have hi2 : i < (L ++ [(w, v, cs)]).length := by
        rcases Nat.lt_or_ge i (L ++ [(w, v, cs)]).length with q | q
        · exact q
        · rw [List.getElem?_eq_none q] at hi; cases hi
      rw [List.length_append, List.length_singleton] at hi2
      have ei : i = L.length := by omega
      subst ei
      rw [List.getElem?_append_right (Nat.le_refl _), Nat.sub_self] at hi
      have ec2 : c = (w, v, cs) := by simpa using hi.symm
      subst ec2
      rw [List.take_of_length_le (by simp), ec]
      exact ⟨by rw [q_upN (show (7 : Nat) ≠ 9 by decide), q_upN (show (7 : Nat) ≠ 8 by decide), q_upV], by rw [q_upN (show (8 : Nat) ≠ 9 by decide), q_upV], q_upV⟩
  · rw [k4]; exact j3
  · rw [k6, ec]; exact j4
  · intro j hj
    rw [ec] at hj ⊢
    rw [q_upN (by decide), q_upN (by decide), q_upN (by decide)]
    exact j5 j hj
  · rw [es]; exact hM
