/-! ===== single conditions, all depths ===== -/
section yy
variable {T : Nat → Nat} {t k : Nat} {IC : Nat → Int32} {RC : Nat → Nat → Int32} {IM : Nat → Int32} {RM : Nat → Nat → Int32}
theorem y_single (H : An T t k RC IM RM) {n o : Nat} {fac : Int32 → (Nat → Int32) → (Nat → Nat → Int32) → Option (Int32 × MU)} {fM : (Nat → Int32) → (Nat → Nat → Int32) → Option MU} (hn : 200 ≤ n) (ho : o ≤ 5) (hf : o < 5 → SPf t k IC RC IM RM (o + 1) (2 * (5 - (o + 1))) (fac (nI (o + 1))) fM) (hW : ∀ p I R, WM k IM RM p I R → fM I R = some (I, R)) : SPf t k IC RC IM RM o (2 * (5 - o)) (p_Ni_readSingleB n t fac (nI o)) (p_Md_factorB n fM) := by
  intro p C S I R I' R' hp hC hS h h'
  have ht := H.1
  rw [y_sgl_eq, y_fac_eq, if_pos h'.2.2.1, y_here H hp h'.1 h'.2.1, h.2.2.1, y_sat H (C := C) (by omega) (h.2.1 3 (by decide)), Option.bind_some, Option.bind_some]
  have j2 : JC IC RC (p + 1) C (upd I 4 (nI (p + 1))) R := ⟨fun i a b => by rw [y_ud a]; exact h.1 i a b, h.2.1, pk_us, by rw [y_ud (by decide)]; exact h.2.2.2.1, h.2.2.2.2⟩
  have m2 : JM k IM RM (p + 1) S (o + 1) (upd (upd (upd I' 7 0) 8 (upd I' 7 0 8 + 1)) 5 (upd (upd I' 7 0) 8 (upd I' 7 0 8 + 1) 5 + 1)) R' := ⟨FM_u h'.1 (fun i a b c => by rw [y_ud a, y_ud c, y_ud b]), by rw [pk_us, y_ud (by decide), y_ud (by decide), h'.2.1, nI_1], by rw [y_ud (by decide), y_ud (by decide), pk_us], by rw [y_ud (by decide), pk_us, y_ud (by decide), h'.2.2.2.1, nI_1], h'.2.2.2.2⟩
  have w2 : WM k IM RM p (upd (upd (upd I' 7 1) 8 (upd I' 7 1 8 + 1)) 5 (upd (upd I' 7 1) 8 (upd I' 7 1 8 + 1) 5 + 0)) R' := ⟨FM_u h'.1 (fun i a b c => by rw [y_ud a, y_ud c, y_ud b]), by rw [pk_us, y_ud (by decide), y_ud (by decide), h'.2.1]; exact nI_add p 0, by rw [y_ud (by decide), y_ud (by decide), pk_us]⟩
  have w8 : ∀ {q : Nat} {I R}, WM k IM RM q I R → WM k IM RM q (upd I 8 (I 8 - 1)) R := fun w => ⟨FM_u w.1 (fun i a b c => by rw [y_ud c]), by rw [y_ud (by decide)]; exact w.2.1, by rw [y_ud (by decide)]; exact w.2.2⟩
  have m8 : ∀ {q : Nat} {S I R}, JM k IM RM q S (o + 1) I R → JM k IM RM q S o (upd I 8 (I 8 - 1)) R := fun w => ⟨FM_u w.1 (fun i a b c => by rw [y_ud c]), by rw [y_ud (by decide)]; exact w.2.1, by rw [y_ud (by decide)]; exact w.2.2.1, by rw [pk_us, w.2.2.2.1, nI_pred], w.2.2.2.2⟩
  have eo : ∀ x, o < 5 → mOpen n fM x I' R' = (if x = 33 then (fM (upd (upd (upd I' 7 0) 8 (upd I' 7 0 8 + 1)) 5 (upd (upd I' 7 0) 8 (upd I' 7 0 8 + 1) 5 + 1)) R').bind fun (I18, R19) => (p_Md_emits n (-1) I18 R19).bind fun (I21, R22) => some (I21, R22) else (p_Md_some n fM (upd (upd (upd I' 7 0) 8 (upd I' 7 0 8 + 1)) 5 (upd (upd I' 7 0) 8 (upd I' 7 0 8 + 1) 5 + 1)) R').bind fun (I12, R13) => (p_Md_must n 41 I12 R13).bind fun (I15, R16) => some (I15, R16) : Option ((Nat → Int32) × (Nat → Nat → Int32))).bind fun (I9, R10) => some ((upd I9 8 ((I9 8) - 1)), R10) := by
    intro x ho5
    unfold mOpen
    rw [h'.2.2.2.1, if_neg (show ¬ nI o = 5 from fun e => absurd ((nI_eq (a := o) (b := 5) (by omega) (by omega)).mp e) (by omega)), Option.bind_some, if_pos (show isZ 0 from Or.inl rfl), if_pos (show upd (upd I' 7 0) 8 (upd I' 7 0 8 + 1) 7 = 0 by rw [y_ud (by decide)]; exact pk_us), Option.bind_some]
  have eo5 : ∀ x, ¬ o < 5 → mOpen n fM x I' R' = (if x = 33 then (fM (upd (upd (upd I' 7 1) 8 (upd I' 7 1 8 + 1)) 5 (upd (upd I' 7 1) 8 (upd I' 7 1 8 + 1) 5 + 0)) R').bind fun (I18, R19) => (p_Md_emits n (-1) I18 R19).bind fun (I21, R22) => some (I21, R22) else (p_Md_some n fM (upd (upd (upd I' 7 1) 8 (upd I' 7 1 8 + 1)) 5 (upd (upd I' 7 1) 8 (upd I' 7 1 8 + 1) 5 + 0)) R').bind fun (I12, R13) => (p_Md_must n 41 I12 R13).bind fun (I15, R16) => some (I15, R16) : Option ((Nat → Int32) × (Nat → Nat → Int32))).bind fun (I9, R10) => some ((upd I9 8 ((I9 8) - 1)), R10) := by
    intro x ho5
    unfold mOpen
    rw [if_pos (show I' 8 = 5 by rw [h'.2.2.2.1, show o = 5 by omega]; rfl), Option.bind_some, if_pos (show isZ 1 from Or.inr rfl), if_neg (show ¬ upd (upd I' 7 1) 8 (upd I' 7 1 8 + 1) 7 = 0 by rw [y_ud (by decide), pk_us]; decide), Option.bind_some]
  by_cases q33 : sg T t p = 33
  · have hpt : p < t := y_sgl H (v := 33) q33.symm (by decide)
    rw [if_pos q33, if_pos q33, q33]
    unfold cOpen
    by_cases ho5 : o < 5
    · rw [if_pos (show nI o < 5 from nI_lt (b := 5) ho5 (by omega)), if_neg (show ¬ (33 : Int32) = 40 by decide), nI_1, h.2.2.1, nI_1, eo 33 ho5, if_pos (show (33 : Int32) = 33 from rfl)]
      rcases hf ho5 (p + 1) C S _ R _ R' hpt (by omega) (by omega) j2 m2 with ⟨I1, R1, I2, R2, p', cs, c1, c2, c3, c4, c5, c6, c7, c8⟩ | ⟨I1, R1, I2, R2, p', c1, c2, c3, c4, c5⟩
      · obtain ⟨I3, R3, u1, u2⟩ := y_add (n := n) (c := 0) (t := t) ht (by rw [List.length_append]; omega) c7
        obtain ⟨R4, z1, z2⟩ := y_emit (n := n) (v := -1) H (by rw [List.length_append, List.length_map]; omega) c8
        refine Or.inl ⟨I3, R3, upd I2 8 (I2 8 - 1), R4, p', cs ++ [0], ?_, ?_, by omega, c4, by simp only [List.length_append, List.length_singleton]; omega, fun h hh => wf_app cs [0] h (h + 1) (h + 1) (c6 h (by omega)) ⟨Or.inl ⟨rfl, by omega⟩, rfl⟩, by rw [← List.append_assoc]; exact u2, ?_⟩
        · rw [c1, Option.bind_some]
          dsimp only
          rw [if_neg (show ¬ (1 : Int32) = 0 by decide), show (-1 : Int32) = kC 0 from rfl, u1]; rfl
        · rw [c2, Option.bind_some]
          dsimp only
          rw [z1]; rfl
        · rw [List.map_append, ← List.append_assoc]
          exact m8 z2
      · refine Or.inr ⟨I1, R1, _, R2, p', ?_, ?_, c3, c4, w8 c5⟩
        · rw [c1, Option.bind_some]
          dsimp only
          rw [if_pos (show (0 : Int32) = 0 from rfl)]
        · rw [c2, Option.bind_some]
          dsimp only
          rw [y_emitW c5]; rfl
    · rw [if_neg (show ¬ nI o < 5 from nI_nlt (b := 5) (by omega) (by omega)), eo5 33 ho5, if_pos (show (33 : Int32) = 33 from rfl), hW p _ _ w2, Option.bind_some]
      dsimp only
      rw [y_emitW w2]
      exact Or.inr ⟨I, R, _, R', p, rfl, rfl, hp, h.2.2.1, w8 w2⟩
  · by_cases q40 : sg T t p = 40
    · have hpt : p < t := y_sgl H (v := 40) q40.symm (by decide)
      rw [if_neg q33, if_neg q33, if_pos q40, if_pos q40, q40]
      unfold cOpen
      by_cases ho5 : o < 5
      · rw [if_pos (show nI o < 5 from nI_lt (b := 5) ho5 (by omega)), if_pos (show (40 : Int32) = 40 from rfl), nI_1, h.2.2.1, nI_1, eo 40 ho5, if_neg (show ¬ (40 : Int32) = 33 by decide)]
        rcases y_either H hn (y_both H hn (hf ho5)) (p + 1) C S _ R _ R' hpt (by omega) (by omega) j2 m2 with ⟨I1, R1, I2, R2, p', cs, c1, c2, c3, c4, c5, c6, c7, c8⟩ | ⟨I1, R1, I2, R2, p', c1, c2, c3, c4, c5⟩
        · rw [c1, Option.bind_some, c2, Option.bind_some]
          dsimp only
          rw [if_neg (show ¬ (1 : Int32) = 0 by decide)]
          rcases y_take (n := n) H (show (41 : Int32) ≠ -1 by decide) c4 c7 with ⟨a, b, e, g⟩ | ⟨a, e⟩
          · rcases y_must (n := n) (v := 41) H c4 c8 with ⟨a', I4, e', g'⟩ | ⟨a', I4, e', g'⟩
            · rw [e, e']
              exact Or.inl ⟨_, R1, _, R2, p' + 1, cs, rfl, rfl, by omega, b, by omega, fun h hh => c6 h (by omega), g, m8 g'⟩
            · exact absurd a a'
          · rcases y_must (n := n) (v := 41) H c4 c8 with ⟨a', I4, e', g'⟩ | ⟨a', I4, e', g'⟩
            · exact absurd a' a
            · rw [e, e']
              exact Or.inr ⟨_, R1, _, R2, p', rfl, rfl, c4, c7.2.2.1, w8 g'⟩
        · rw [c1, Option.bind_some, c2, Option.bind_some]
          dsimp only
          obtain ⟨I4, e', g'⟩ := y_mustW (n := n) (v := 41) c5
          rw [if_pos (show (0 : Int32) = 0 from rfl), e']
          exact Or.inr ⟨_, R1, _, R2, p', rfl, rfl, c3, c4, w8 g'⟩
      · obtain ⟨I4, e', g'⟩ := y_mustW (n := n) (v := 41) w2
        rw [if_neg (show ¬ nI o < 5 from nI_nlt (b := 5) (by omega) (by omega)), eo5 40 ho5, if_neg (show ¬ (40 : Int32) = 33 by decide), y_eitherW hn hW w2, Option.bind_some]
        dsimp only
        rw [e']
        exact Or.inr ⟨I, R, _, R', p, rfl, rfl, hp, h.2.2.1, w8 g'⟩
    · rw [if_neg q33, if_neg q33, if_neg q40, if_neg q40]
      rcases y_test (d := 2 * (5 - o)) H hn hp hC hS h h' with ⟨I1, R1, I2, R2, p', cs, c1, c2, c3⟩ | ⟨I1, R1, I2, R2, p', c1, c2, c3⟩
      · rw [c1]
        exact Or.inl ⟨I1, R1, I2, R2, p', cs, rfl, c2, c3⟩
      · rw [c1]
        exact Or.inr ⟨I1, R1, I2, R2, p', rfl, c2, c3⟩
theorem y_facW {n j p : Nat} {I : Nat → Int32} {R : Nat → Nat → Int32} (h : WM k IM RM p I R) : p_Md_factor n (j + 1) I R = some (I, R) := by
  show p_Md_factorB n _ I R = _
  rw [y_fac_eq, h.2.2, if_neg (show ¬ (1 : Int32) = 0 by decide)]
theorem y_singles (H : An T t k RC IM RM) {n : Nat} (hn : 200 ≤ n) : ∀ j o, o ≤ 5 → 7 ≤ j + o → SPf t k IC RC IM RM o (2 * (5 - o)) (p_Ni_readSingle n t j (nI o)) (p_Md_factor n j)
  | 0, o, ho, hj => by omega
  | j + 1, o, ho, hj => by
    refine y_single H hn ho (fun h => y_singles H hn j (o + 1) h (by omega)) (fun p I R w => ?_)
    obtain ⟨j, rfl⟩ : ∃ x, j = x + 1 := ⟨j - 1, by omega⟩
    exact y_facW w
theorem y_whole (H : An T t k RC IM RM) {n : Nat} (hn : 200 ≤ n) : SPf t k IC RC IM RM 0 12 (p_Ni_readEitherT n t 0) (p_Md_someT n) := y_either H hn (y_both H hn (y_singles H hn 8 0 (by omega) (by omega)))
theorem y_wholeW {n p : Nat} {I : Nat → Int32} {R : Nat → Nat → Int32} (hn : 200 ≤ n) (h : WM k IM RM p I R) : p_Md_someT n I R = some (I, R) := y_eitherW hn (fun p I R w => y_facW w) h
end yy
