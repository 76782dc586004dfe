/-! ===== numbers, texts, letters in step ===== -/
theorem y_sgr {T : Nat → Nat} {t k p : Nat} {RC : Nat → Nat → Int32} {IM : Nat → Int32} {RM : Nat → Nat → Int32} (H : An T t k RC IM RM) : (p < t ∧ sg T t p = nI (T p) ∧ T p ≤ 127) ∨ (¬ p < t ∧ sg T t p = -1) := by
  unfold sg
  by_cases h : p < t
  · exact Or.inl ⟨h, by rw [if_pos h], (H.2.2.1 p h).1⟩
  · exact Or.inr ⟨h, by rw [if_neg h]⟩
/-- the figure at p: class side -/
def fgC (n tl : Nat) (I : Nat → Int32) (R : Nat → Nat → Int32) : Option Int32 := (if (nI tl) ≤ (I 4) then some (-1) else if ix (I 4) tl then some ((R 3 (I 4).toNatClampNeg) - 48) else none : Option (Int32))
theorem y_rn_eq {n tl : Nat} {I : Nat → Int32} {R : Nat → Nat → Int32} : p_Ni_readNumber n tl I R = (fgC n tl I R).bind fun x2 => (if x2 < 0 then some ((-1), I, R) else (if x2 ≤ 9 then (fgC n tl (upd I 4 ((I 4) + 1)) R).bind fun x5 => (if x2 = 0 then some (x2, (upd I 4 ((I 4) + 1)), R) else (if x5 < 0 then some (x2, (upd I 4 ((I 4) + 1)), R) else (if x5 ≤ 9 then some (((x2 * 10) + x5), (upd (upd I 4 ((I 4) + 1)) 4 (((upd I 4 ((I 4) + 1)) 4) + 1)), R) else some (x2, (upd I 4 ((I 4) + 1)), R)))) else some ((-1), I, R))) := rfl
theorem y_dig : ∀ c, c ≤ 127 → ((nI c - 48 < 0 ∨ (¬ nI c - 48 < 0 ∧ ¬ nI c - 48 ≤ 9)) ∧ ¬ ((48 : Int32) ≤ nI c ∧ nI c ≤ 57)) ∨ (48 ≤ c ∧ c ≤ 57 ∧ nI c - 48 = nI (c - 48) ∧ ((48 : Int32) ≤ nI c ∧ nI c ≤ 57)) := by decide +kernel
theorem y_fg {n : Nat} {T : Nat → Nat} {t k p : Nat} {IC : Nat → Int32} {RC : Nat → Nat → Int32} {IM : Nat → Int32} {RM : Nat → Nat → Int32} (H : An T t k RC IM RM) {C : List Nat} {I : Nat → Int32} {R : Nat → Nat → Int32} (hp : p ≤ t) (h : JC IC RC p C I R) : ∃ x, fgC n t I R = some x ∧ (((x < 0 ∨ (¬ x < 0 ∧ ¬ x ≤ 9)) ∧ ¬ ((48 : Int32) ≤ sg T t p ∧ sg T t p ≤ 57)) ∨ (p < t ∧ ∃ d, d ≤ 9 ∧ x = nI d ∧ sg T t p = nI (48 + d) ∧ ((48 : Int32) ≤ sg T t p ∧ sg T t p ≤ 57))) := by
  unfold fgC
  obtain ⟨j1, j2, j3, j4, j5⟩ := h
  have ht := H.1
  rw [j3]
  rcases y_sgr (p := p) H with ⟨a, b, c⟩ | ⟨a, b⟩
  · refine ⟨nI (T p) - 48, ?_, ?_⟩
    · rw [if_neg (nI_ge a (by omega)), if_pos (nI_in a (by omega)), nI_clamp (by omega), j2 3 (by decide), (H.2.2.1 p a).2.1]
    · rw [b]
      rcases y_dig (T p) c with h | ⟨h1, h2, h3, h4⟩
      · exact Or.inl h
      · exact Or.inr ⟨a, T p - 48, by omega, h3, by rw [show 48 + (T p - 48) = T p by omega], h4⟩
  · refine ⟨-1, by rw [if_pos (nI_le (by omega) (by omega))], Or.inl ⟨Or.inl (by decide), ?_⟩⟩
    rw [b]; decide
theorem y_ten : ∀ a, a ≤ 9 → ∀ b, b ≤ 9 → nI a * 10 + nI b = nI (10 * a + b) ∧ 10 * nI a + nI (48 + b) - 48 = nI (10 * a + b) := by decide +kernel
theorem y_figW {n k p : Nat} {IM : Nat → Int32} {RM : Nat → Nat → Int32} {I : Nat → Int32} {R : Nat → Nat → Int32} (hn : 3 ≤ n) (h : WM k IM RM p I R) : ∃ y I', p_Md_figures n I R = some (y, I', R) ∧ WM k IM RM p I' R := by
  obtain ⟨j1, j2, j3⟩ := h
  obtain ⟨f, hf⟩ : ∃ f, n = f + 1 := ⟨n - 1, by omega⟩
  refine ⟨0, upd I 7 1, ?_, FM_u j1 (fun i a b c => by rw [y_ud b]), by rw [y_ud (by decide)]; exact j2, pk_us⟩
  unfold p_Md_figures
  rw [j3, if_neg (show ¬ (1 : Int32) = 0 by decide), Option.bind_some, if_pos (show isZ 1 from Or.inr rfl)]
  have e : ∀ f, l_Md_figures_34 n (f + 1) 0 0 (upd I 7 1) R = some (0, upd I 7 1, R) := fun f => by
    rw [l_Md_figures_34, if_neg (by decide), pk_us, if_neg (by decide)]
  have e2 : l_Md_figures_34 n n 0 0 (upd I 7 1) R = some (0, upd I 7 1, R) := by
    have := e f
    rw [← hf] at this
    exact this
  rw [e2]; rfl
theorem y_num {n : Nat} {T : Nat → Nat} {t k p : Nat} {IC : Nat → Int32} {RC : Nat → Nat → Int32} {IM : Nat → Int32} {RM : Nat → Nat → Int32} (H : An T t k RC IM RM) {C : List Nat} {S : List Int32} {o : Nat} {I : Nat → Int32} {R : Nat → Nat → Int32} {I' : Nat → Int32} {R' : Nat → Nat → Int32} (hn : 3 ≤ n) (hp : p ≤ t) (h : JC IC RC p C I R) (h' : JM k IM RM p S o I' R') :
    (∃ v p' I1 I1', v ≤ 99 ∧ p < p' ∧ p' ≤ t ∧ p_Ni_readNumber n t I R = some (nI v, I1, R) ∧ p_Md_figures n I' R' = some (nI v, I1', R') ∧ JC IC RC p' C I1 R ∧ JM k IM RM p' S o I1' R') ∨ (∃ y I1', p_Ni_readNumber n t I R = some (-1, I, R) ∧ p_Md_figures n I' R' = some (y, I1', R') ∧ WM k IM RM p I1' R') := by
  obtain ⟨f, hf⟩ : ∃ f, n = f + 1 + 1 + 1 := ⟨n - 3, by omega⟩
  have ht := H.1
  obtain ⟨x, e1, e2⟩ := y_fg (n := n) H hp h
  obtain ⟨m1, m2, m3, m4, m5, m6⟩ := h'
  have eF : p_Md_figures n I' R' = ((p_Md_in n (sg T t p) 48 57).bind fun x6 => (if x6 = 0 then some 1 else some 0 : Option Int32)).bind fun x2 => if isZ x2 then (l_Md_figures_34 n (f + 1 + 1 + 1) 0 0 (upd I' 7 x2) R').bind fun (y16, I17, R18) => some (y16, I17, R18) else none := by
    rw [← hf]
    unfold p_Md_figures
    rw [if_pos m3, y_here H hp m1 m2, Option.bind_some]
  rcases e2 with ⟨e3, e4⟩ | ⟨hpt, d, hd, rfl, e5, e6⟩
  · right
    refine ⟨0, upd I' 7 1, ?_, ?_, FM_u m1 (fun i a b c => by rw [y_ud b]), by rw [y_ud (by decide)]; exact m2, pk_us⟩
    · rw [y_rn_eq, e1, Option.bind_some]
      rcases e3 with a | ⟨a, b⟩
      · rw [if_pos a]
      · rw [if_neg a, if_neg b]
    · rw [eF, q_in0 e4, Option.bind_some, if_pos rfl, Option.bind_some, if_pos (show isZ 1 from Or.inr rfl), l_Md_figures_34, if_neg (by decide), pk_us, if_neg (by decide)]; rfl
  · left
    obtain ⟨j1, j2, j3, j4, j5⟩ := h
    have h2 : JC IC RC (p + 1) C (upd I 4 (I 4 + 1)) R := ⟨fun i a b => by rw [y_ud a]; exact j1 i a b, j2, by rw [pk_us, j3, nI_1], by rw [y_ud (by decide)]; exact j4, j5⟩
    obtain ⟨x2, g1, g2⟩ := y_fg (n := n) H hpt h2
    have q2 : JM k IM RM (p + 1) S o (upd (upd I' 7 0) 5 (upd I' 7 0 5 + 1)) R' := ⟨FM_u m1 (fun i a b c => by rw [y_ud a, y_ud b]), by rw [pk_us, y_ud (by decide), m2, nI_1], by rw [y_ud (by decide), pk_us], by rw [y_ud (by decide), y_ud (by decide)]; exact m4, m5, m6⟩
    have q1 : JM k IM RM p S o (upd I' 7 0) R' := ⟨FM_u m1 (fun i a b c => by rw [y_ud b]), by rw [y_ud (by decide)]; exact m2, pk_us, by rw [y_ud (by decide)]; exact m4, m5, m6⟩
    have eF2 : p_Md_figures n I' R' = (l_Md_figures_34 n (f + 1 + 1) (nI d) 1 (upd (upd I' 7 0) 5 (upd I' 7 0 5 + 1)) R').bind fun (y16, I17, R18) => some (y16, I17, R18) := by
      rw [eF, q_in1 e6.1 e6.2, Option.bind_some, if_neg (show ¬ (1 : Int32) = 0 by decide), Option.bind_some, if_pos (show isZ 0 from Or.inl rfl), l_Md_figures_34, if_neg (by decide), if_pos q1.2.2.1, y_here H hp q1.1 q1.2.1, Option.bind_some, q_in1 e6.1 e6.2, Option.bind_some, if_neg (show ¬ (1 : Int32) = 0 by decide), if_pos rfl, Option.bind_some, e5]
      have := (y_ten 0 (by omega) d hd).2
      rw [show (10 : Int32) * 0 = 10 * nI 0 from rfl, this, Nat.mul_zero, Nat.zero_add]
      rfl
    have eF3 : p_Md_figures n I' R' = ((p_Md_in n (sg T t (p + 1)) 48 57).bind fun x11 => (if x11 = 0 then some (nI d, (upd (upd I' 7 0) 5 (upd I' 7 0 5 + 1)), R') else (if nI d ≤ 0 then some (nI d, (upd (upd I' 7 0) 5 (upd I' 7 0 5 + 1)), R') else l_Md_figures_34 n (f + 1) (10 * nI d + sg T t (p + 1) - 48) (1 + 1) (upd (upd (upd I' 7 0) 5 (upd I' 7 0 5 + 1)) 5 (upd (upd I' 7 0) 5 (upd I' 7 0 5 + 1) 5 + 1)) R'))).bind fun (y16, I17, R18) => some (y16, I17, R18) := by
      rw [eF2, l_Md_figures_34, if_neg (show ¬ (2 : Int32) ≤ 1 by decide), if_pos q2.2.2.1, y_here H hpt q2.1 q2.2.1, Option.bind_some]
      rfl
    have eC : p_Ni_readNumber n t I R = (if nI d = 0 then some (nI d, (upd I 4 ((I 4) + 1)), R) else (if x2 < 0 then some (nI d, (upd I 4 ((I 4) + 1)), R) else (if x2 ≤ 9 then some (((nI d * 10) + x2), (upd (upd I 4 ((I 4) + 1)) 4 (((upd I 4 ((I 4) + 1)) 4) + 1)), R) else some (nI d, (upd I 4 ((I 4) + 1)), R)))) := by
      rw [y_rn_eq, e1, Option.bind_some, if_neg (nI_pos (by omega)), if_pos (show nI d ≤ 9 from nI_le (b := 9) hd (by omega)), g1, Option.bind_some]
    rcases g2 with ⟨g3, g4⟩ | ⟨hpt2, d2, hd2, rfl, g5, g6⟩
    · refine ⟨d, p + 1, _, _, by omega, by omega, hpt, ?_, ?_, h2, q2⟩
      · rw [eC]
        by_cases hz : nI d = 0
        · rw [if_pos hz]
        · rw [if_neg hz]
          rcases g3 with a | ⟨a, b⟩
          · rw [if_pos a]
          · rw [if_neg a, if_neg b]
      · rw [eF3, q_in0 g4]; rfl
    · rw [q_in1 g6.1 g6.2, Option.bind_some, if_neg (show ¬ (1 : Int32) = 0 by decide)] at eF3
      by_cases hz : d = 0
      · subst hz
        refine ⟨0, p + 1, _, _, by omega, by omega, hpt, ?_, ?_, h2, q2⟩
        · rw [eC, if_pos (show nI 0 = 0 from rfl)]
        · rw [eF3, if_pos (show nI 0 ≤ 0 by decide)]; rfl
      · rw [if_neg (nI_ne0 (by omega) (by omega)), if_neg (nI_pos (by omega)), if_pos (show nI d2 ≤ 9 from nI_le (b := 9) hd2 (by omega)), (y_ten d hd d2 hd2).1] at eC
        rw [if_neg (nI_nle (by omega) (by omega)), g5, (y_ten d hd d2 hd2).2, l_Md_figures_34, if_pos (by decide), Option.bind_some] at eF3
        refine ⟨10 * d + d2, p + 1 + 1, _, _, by omega, by omega, hpt2, eC, eF3, ?_, ?_⟩
        · exact ⟨fun i a b => by rw [y_ud a]; exact h2.1 i a b, j2, by rw [pk_us, h2.2.2.1, nI_1], by rw [y_ud (by decide)]; exact h2.2.2.2.1, j5⟩
        · exact ⟨FM_u q2.1 (fun i a b c => by rw [y_ud a]), by rw [pk_us, q2.2.1, nI_1], by rw [y_ud (by decide)]; exact q2.2.2.1, by rw [y_ud (by decide)]; exact q2.2.2.2.1, m5, m6⟩
