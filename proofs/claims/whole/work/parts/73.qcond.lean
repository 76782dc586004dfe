/-! ===== conditions in step ===== -/
def OutE (t k : Nat) (IC : Nat → Int32) (RC : Nat → Nat → Int32) (IM : Nat → Int32) (RM : Nat → Nat → Int32) (p : Nat) (C : List Nat) (S : List Int32) (o d : Nat) (rc : Option (Int32 × MU)) (rm : Option MU) : Prop :=
  (∃ I1 R1 I2 R2 p' cs, rc = some (1, I1, R1) ∧ rm = some (I2, R2) ∧ p < p' ∧ p' ≤ t ∧ p + cs.length ≤ p' ∧ (∀ h, h + d < 30 → wf cs h (h + 1)) ∧ JC IC RC p' (C ++ cs) I1 R1 ∧ JM k IM RM p' (S ++ cs.map kM) o I2 R2) ∨ (∃ I1 R1 I2 R2 p', rc = some (0, I1, R1) ∧ rm = some (I2, R2) ∧ p' ≤ t ∧ I1 4 = nI p' ∧ WM k IM RM p' I2 R2)
def OutL (t k : Nat) (IC : Nat → Int32) (RC : Nat → Nat → Int32) (IM : Nat → Int32) (RM : Nat → Nat → Int32) (p : Nat) (C : List Nat) (S : List Int32) (o d : Nat) (rc : Option (Int32 × MU)) (rm : Option MU) : Prop :=
  (∃ I1 R1 I2 R2 p' cs, rc = some (1, I1, R1) ∧ rm = some (I2, R2) ∧ p ≤ p' ∧ p' ≤ t ∧ p + cs.length ≤ p' ∧ (∀ h, h + d < 30 → wf cs (h + 1) (h + 1)) ∧ JC IC RC p' (C ++ cs) I1 R1 ∧ JM k IM RM p' (S ++ cs.map kM) o I2 R2) ∨ (∃ I1 R1 I2 R2 p', rc = some (0, I1, R1) ∧ rm = some (I2, R2) ∧ p' ≤ t ∧ I1 4 = nI p' ∧ WM k IM RM p' I2 R2)
def SPf (t k : Nat) (IC : Nat → Int32) (RC : Nat → Nat → Int32) (IM : Nat → Int32) (RM : Nat → Nat → Int32) (o d : Nat) (fC : (Nat → Int32) → (Nat → Nat → Int32) → Option (Int32 × MU)) (fM : (Nat → Int32) → (Nat → Nat → Int32) → Option MU) : Prop :=
  ∀ p C S I R I' R', p ≤ t → C.length ≤ p → S.length ≤ p → JC IC RC p C I R → JM k IM RM p S o I' R' → OutE t k IC RC IM RM p C S o d (fC I R) (fM I' R')
section yy
variable {T : Nat → Nat} {t k : Nat} {IC : Nat → Int32} {RC : Nat → Nat → Int32} {IM : Nat → Int32} {RM : Nat → Nat → Int32}
theorem y_lpboth (H : An T t k RC IM RM) {n o d : Nat} {fac : Int32 → (Nat → Int32) → (Nat → Nat → Int32) → Option (Int32 × MU)} {fM : (Nat → Int32) → (Nat → Nat → Int32) → Option MU} (hf : SPf t k IC RC IM RM o d (fac (nI o)) (fM)) : ∀ (r p i f g : Nat) (C : List Nat) (S : List Int32) (I : Nat → Int32) (R : Nat → Nat → Int32) (I' : Nat → Int32) (R' : Nat → Nat → Int32), t - p ≤ r → i ≤ p → r + 1 ≤ f → r + 2 ≤ g → p ≤ t → C.length ≤ p → S.length ≤ p → JC IC RC p C I R → JM k IM RM p S o I' R' → OutL t k IC RC IM RM p C S o (d + 1) (l_Ni_readBoth_12 n t fac (nI o) f (nI i) I R) (l_Md_every_4 n fM g I' R') := by
  have stop : ∀ (p i f g : Nat) (C : List Nat) (S : List Int32) (I : Nat → Int32) (R : Nat → Nat → Int32) (I' : Nat → Int32) (R' : Nat → Nat → Int32), (38 : Int32) ≠ sg T t p → p ≤ t → JC IC RC p C I R → JM k IM RM p S o I' R' → OutL t k IC RC IM RM p C S o (d + 1) (l_Ni_readBoth_12 n t fac (nI o) (f + 1) (nI i) I R) (l_Md_every_4 n fM (g + 1) I' R') := by
    intro p i f g C S I R I' R' hs hp h h'
    refine Or.inl ⟨I, R, I', R', p, [], ?_, ?_, Nat.le_refl _, hp, Nat.le_refl _, fun h _ => rfl, by rw [List.append_nil]; exact h, by rw [List.map_nil, List.append_nil]; exact h'⟩
    · rw [l_Ni_readBoth_12]
      rcases y_take (n := n) H (show (38 : Int32) ≠ -1 by decide) hp h with ⟨a, _⟩ | ⟨a, e⟩
      · exact absurd a hs
      · rw [e, Option.bind_some]
        dsimp only
        rw [if_pos (show (0 : Int32) = 0 from rfl), ite_self]
    · rw [l_Md_every_4, if_pos h'.2.2.1, y_here H hp h'.1 h'.2.1, Option.bind_some, if_neg (fun e => hs e.symm)]
  intro r
  induction r with
  | zero =>
    intro p i f g C S I R I' R' hr hi hf1 hgg hp hC hS h h'
    obtain ⟨f, rfl⟩ : ∃ x, f = x + 1 := ⟨f - 1, by omega⟩
    obtain ⟨g, rfl⟩ : ∃ x, g = x + 1 := ⟨g - 1, by omega⟩
    refine stop p i f g C S I R I' R' (fun e => ?_) hp h h'
    have := y_sgl H e (by decide)
    omega
  | succ r ih =>
    intro p i f g C S I R I' R' hr hi hf1 hgg hp hC hS h h'
    obtain ⟨f, rfl⟩ : ∃ x, f = x + 1 := ⟨f - 1, by omega⟩
    obtain ⟨g, rfl⟩ : ∃ x, g = x + 1 := ⟨g - 1, by omega⟩
    have ht := H.1
    rcases y_take (n := n) H (show (38 : Int32) ≠ -1 by decide) hp h with ⟨a, b, e, j⟩ | ⟨a, e⟩
    · have e1 : l_Ni_readBoth_12 n t fac (nI o) (f + 1) (nI i) I R = (fac (nI o) (upd I 4 (nI (p + 1))) R).bind fun (x12, I10, R11) => (if x12 = 0 then some (0, I10, R11) else (p_Ni_addCode n t (-2) I10 R11).bind fun (I14, R15) => l_Ni_readBoth_12 n t fac (nI o) f (nI i + 1) I14 R15) := by
        rw [l_Ni_readBoth_12, if_neg (nI_ge (by omega) (by omega)), e, Option.bind_some]
        dsimp only
        rw [if_neg (show ¬ (1 : Int32) = 0 by decide)]
      have e2 : l_Md_every_4 n fM (g + 1) I' R' = (fM (upd I' 5 (nI (p + 1))) R').bind fun (I7, R8) => (p_Md_emits n (-2) I7 R8).bind fun (I10, R11) => l_Md_every_4 n fM g I10 R11 := by
        rw [l_Md_every_4, if_pos h'.2.2.1, y_here H hp h'.1 h'.2.1, Option.bind_some, if_pos a.symm, h'.2.1, nI_1]
      have j' : JM k IM RM (p + 1) S o (upd I' 5 (nI (p + 1))) R' := ⟨FM_u h'.1 (fun i a b c => by rw [y_ud a]), pk_us, by rw [y_ud (by decide)]; exact h'.2.2.1, by rw [y_ud (by decide)]; exact h'.2.2.2.1, h'.2.2.2.2⟩
      rw [e1, e2]
      rcases hf (p + 1) C S _ R _ R' b (by omega) (by omega) j j' with ⟨I1, R1, I2, R2, p', cs, c1, c2, c3, c4, c5, c6, c7, c8⟩ | ⟨I1, R1, I2, R2, p', c1, c2, c3, c4, c5⟩
      · obtain ⟨I3, R3, u1, u2⟩ := y_add (n := n) (c := 1) (t := t) ht (by rw [List.length_append]; omega) c7
        obtain ⟨R4, w1, w2⟩ := y_emit (n := n) (v := -2) H (by rw [List.length_append, List.length_map]; omega) c8
        rw [c1, Option.bind_some, c2, Option.bind_some]
        dsimp only
        rw [if_neg (show ¬ (1 : Int32) = 0 by decide), show (-2 : Int32) = kC 1 from rfl, u1, Option.bind_some, nI_1]
        rw [show kC 1 = (-2 : Int32) from rfl, w1, Option.bind_some]
        dsimp only
        rcases ih p' (i + 1) f g (C ++ cs ++ [1]) (S ++ cs.map kM ++ [-2]) I3 R3 I2 R4 (by omega) (by omega) (by omega) (by omega) c4 (by simp only [List.length_append, List.length_singleton]; omega) (by simp only [List.length_append, List.length_singleton, List.length_map]; omega) u2 w2 with ⟨I5, R5, I6, R6, p2, cs2, z1, z2, z3, z4, z5, z6, z7, z8⟩ | ⟨I5, R5, I6, R6, p2, z1, z2, z3, z4, z5⟩
        · refine Or.inl ⟨I5, R5, I6, R6, p2, cs ++ (1 :: cs2), z1, z2, by omega, z4, by simp only [List.length_append, List.length_cons]; omega, fun h hh => ?_, ?_, ?_⟩
          · refine wf_app cs (1 :: cs2) (h + 1) (h + 1 + 1) (h + 1) (c6 (h + 1) (by omega)) ⟨Or.inr (Or.inl ⟨(Or.inl rfl), by omega⟩), ?_⟩
            have hh2 : hg 1 (h + 1 + 1) = h + 1 := by unfold hg; rw [if_neg (by decide), if_pos (Or.inl rfl)]; rfl
            rw [hh2]
            exact z6 h hh
          · rw [show C ++ (cs ++ 1 :: cs2) = C ++ cs ++ [1] ++ cs2 by simp only [List.append_assoc, List.singleton_append]]
            exact z7
          · rw [show S ++ (cs ++ 1 :: cs2).map kM = S ++ cs.map kM ++ [-2] ++ cs2.map kM by rw [List.map_append, List.map_cons, show kM 1 = (-2 : Int32) from rfl]; simp only [List.append_assoc, List.singleton_append]]
            exact z8
        · exact Or.inr ⟨I5, R5, I6, R6, p2, z1, z2, z3, z4, z5⟩
      · refine Or.inr ⟨I1, R1, I2, R2, p', ?_, ?_, c3, c4, c5⟩
        · rw [c1, Option.bind_some]
          dsimp only
          rw [if_pos (show (0 : Int32) = 0 from rfl)]
        · rw [c2, Option.bind_some]
          dsimp only
          rw [y_emitW c5, Option.bind_some]
          dsimp only
          obtain ⟨g, rfl⟩ : ∃ x, g = x + 1 := ⟨g - 1, by omega⟩
          rw [l_Md_every_4, c5.2.2, if_neg (show ¬ (1 : Int32) = 0 by decide)]
    · exact stop p i f g C S I R I' R' a hp h h'
theorem y_both (H : An T t k RC IM RM) {n o d : Nat} {fac : Int32 → (Nat → Int32) → (Nat → Nat → Int32) → Option (Int32 × MU)} {fM : (Nat → Int32) → (Nat → Nat → Int32) → Option MU} (hn : 200 ≤ n) (hf : SPf t k IC RC IM RM o d (fac (nI o)) (fM)) : SPf t k IC RC IM RM o (d + 1) (p_Ni_readBoth n t fac (nI o)) (p_Md_every n fM) := by
  intro p C S I R I' R' hp hC hS h h'
  have ht := H.1
  unfold p_Ni_readBoth p_Md_every
  rcases hf p C S I R I' R' hp hC hS h h' with ⟨I1, R1, I2, R2, p', cs, c1, c2, c3, c4, c5, c6, c7, c8⟩ | ⟨I1, R1, I2, R2, p', c1, c2, c3, c4, c5⟩
  · rw [c1, Option.bind_some, c2, Option.bind_some]
    dsimp only
    rw [if_neg (show ¬ (1 : Int32) = 0 by decide)]
    rcases y_lpboth H (n := n) hf t p' 0 n n (C ++ cs) (S ++ cs.map kM) I1 R1 I2 R2 (by omega) (by omega) (by omega) (by omega) c4 (by rw [List.length_append]; omega) (by rw [List.length_append, List.length_map]; omega) c7 c8 with ⟨I5, R5, I6, R6, p2, cs2, z1, z2, z3, z4, z5, z6, z7, z8⟩ | ⟨I5, R5, I6, R6, p2, z1, z2, z3, z4, z5⟩
    · refine Or.inl ⟨I5, R5, I6, R6, p2, cs ++ cs2, z1, by rw [z2]; rfl, by omega, z4, by rw [List.length_append]; omega, fun h hh => wf_app cs cs2 h (h + 1) (h + 1) (c6 h (by omega)) (z6 h hh), by rw [← List.append_assoc]; exact z7, by rw [List.map_append, ← List.append_assoc]; exact z8⟩
    · exact Or.inr ⟨I5, R5, I6, R6, p2, z1, by rw [z2]; rfl, z3, z4, z5⟩
  · refine Or.inr ⟨I1, R1, I2, R2, p', ?_, ?_, c3, c4, c5⟩
    · rw [c1, Option.bind_some]
      dsimp only
      rw [if_pos (show (0 : Int32) = 0 from rfl)]
    · rw [c2, Option.bind_some]
      dsimp only
      obtain ⟨g, hg⟩ : ∃ x, n = x + 1 := ⟨n - 1, by omega⟩
      have e : ∀ g, l_Md_every_4 n fM (g + 1) I2 R2 = some (I2, R2) := fun g => by rw [l_Md_every_4, c5.2.2, if_neg (show ¬ (1 : Int32) = 0 by decide)]
      have e2 := e g
      rw [← hg] at e2
      rw [e2]; rfl
theorem y_bothW {n p : Nat} {fM : (Nat → Int32) → (Nat → Nat → Int32) → Option MU} {I : Nat → Int32} {R : Nat → Nat → Int32} (hn : 200 ≤ n) (hf : ∀ p I R, WM k IM RM p I R → fM I R = some (I, R)) (h : WM k IM RM p I R) : p_Md_every n fM I R = some (I, R) := by
  unfold p_Md_every
  rw [hf p I R h, Option.bind_some]
  dsimp only
  obtain ⟨g, hg⟩ : ∃ x, n = x + 1 := ⟨n - 1, by omega⟩
  have e : ∀ g, l_Md_every_4 n fM (g + 1) I R = some (I, R) := fun g => by rw [l_Md_every_4, h.2.2, if_neg (show ¬ (1 : Int32) = 0 by decide)]
  have e2 := e g
  rw [← hg] at e2
  rw [e2]; rfl
theorem y_lpeither (H : An T t k RC IM RM) {n o d : Nat} {fac : Int32 → (Nat → Int32) → (Nat → Nat → Int32) → Option (Int32 × MU)} {fM : (Nat → Int32) → (Nat → Nat → Int32) → Option MU} (hf : SPf t k IC RC IM RM o d (p_Ni_readBoth n t fac (nI o)) (p_Md_every n fM)) : ∀ (r p i f g : Nat) (C : List Nat) (S : List Int32) (I : Nat → Int32) (R : Nat → Nat → Int32) (I' : Nat → Int32) (R' : Nat → Nat → Int32), t - p ≤ r → i ≤ p → r + 1 ≤ f → r + 2 ≤ g → p ≤ t → C.length ≤ p → S.length ≤ p → JC IC RC p C I R → JM k IM RM p S o I' R' → OutL t k IC RC IM RM p C S o (d + 1) (l_Ni_readEither_12 n t fac (nI o) f (nI i) I R) (l_Md_some_4 n fM g I' R') := by
  have stop : ∀ (p i f g : Nat) (C : List Nat) (S : List Int32) (I : Nat → Int32) (R : Nat → Nat → Int32) (I' : Nat → Int32) (R' : Nat → Nat → Int32), (124 : Int32) ≠ sg T t p → p ≤ t → JC IC RC p C I R → JM k IM RM p S o I' R' → OutL t k IC RC IM RM p C S o (d + 1) (l_Ni_readEither_12 n t fac (nI o) (f + 1) (nI i) I R) (l_Md_some_4 n fM (g + 1) I' R') := by
    intro p i f g C S I R I' R' hs hp h h'
    refine Or.inl ⟨I, R, I', R', p, [], ?_, ?_, Nat.le_refl _, hp, Nat.le_refl _, fun h _ => rfl, by rw [List.append_nil]; exact h, by rw [List.map_nil, List.append_nil]; exact h'⟩
    · rw [l_Ni_readEither_12]
      rcases y_take (n := n) H (show (124 : Int32) ≠ -1 by decide) hp h with ⟨a, _⟩ | ⟨a, e⟩
      · exact absurd a hs
      · rw [e, Option.bind_some]
        dsimp only
        rw [if_pos (show (0 : Int32) = 0 from rfl), ite_self]
    · rw [l_Md_some_4, if_pos h'.2.2.1, y_here H hp h'.1 h'.2.1, Option.bind_some, if_neg (fun e => hs e.symm)]
  intro r
  induction r with
  | zero =>
    intro p i f g C S I R I' R' hr hi hf1 hgg hp hC hS h h'
    obtain ⟨f, rfl⟩ : ∃ x, f = x + 1 := ⟨f - 1, by omega⟩
    obtain ⟨g, rfl⟩ : ∃ x, g = x + 1 := ⟨g - 1, by omega⟩
    refine stop p i f g C S I R I' R' (fun e => ?_) hp h h'
    have := y_sgl H e (by decide)
    omega
  | succ r ih =>
    intro p i f g C S I R I' R' hr hi hf1 hgg hp hC hS h h'
    obtain ⟨f, rfl⟩ : ∃ x, f = x + 1 := ⟨f - 1, by omega⟩
    obtain ⟨g, rfl⟩ : ∃ x, g = x + 1 := ⟨g - 1, by omega⟩
    have ht := H.1
    rcases y_take (n := n) H (show (124 : Int32) ≠ -1 by decide) hp h with ⟨a, b, e, j⟩ | ⟨a, e⟩
    · have e1 : l_Ni_readEither_12 n t fac (nI o) (f + 1) (nI i) I R = (p_Ni_readBoth n t fac (nI o) (upd I 4 (nI (p + 1))) R).bind fun (x12, I10, R11) => (if x12 = 0 then some (0, I10, R11) else (p_Ni_addCode n t (-3) I10 R11).bind fun (I14, R15) => l_Ni_readEither_12 n t fac (nI o) f (nI i + 1) I14 R15) := by
        rw [l_Ni_readEither_12, if_neg (nI_ge (by omega) (by omega)), e, Option.bind_some]
        dsimp only
        rw [if_neg (show ¬ (1 : Int32) = 0 by decide)]
      have e2 : l_Md_some_4 n fM (g + 1) I' R' = (p_Md_every n fM (upd I' 5 (nI (p + 1))) R').bind fun (I7, R8) => (p_Md_emits n (-3) I7 R8).bind fun (I10, R11) => l_Md_some_4 n fM g I10 R11 := by
        rw [l_Md_some_4, if_pos h'.2.2.1, y_here H hp h'.1 h'.2.1, Option.bind_some, if_pos a.symm, h'.2.1, nI_1]
      have j' : JM k IM RM (p + 1) S o (upd I' 5 (nI (p + 1))) R' := ⟨FM_u h'.1 (fun i a b c => by rw [y_ud a]), pk_us, by rw [y_ud (by decide)]; exact h'.2.2.1, by rw [y_ud (by decide)]; exact h'.2.2.2.1, h'.2.2.2.2⟩
      rw [e1, e2]
      rcases hf (p + 1) C S _ R _ R' b (by omega) (by omega) j j' with ⟨I1, R1, I2, R2, p', cs, c1, c2, c3, c4, c5, c6, c7, c8⟩ | ⟨I1, R1, I2, R2, p', c1, c2, c3, c4, c5⟩
      · obtain ⟨I3, R3, u1, u2⟩ := y_add (n := n) (c := 2) (t := t) ht (by rw [List.length_append]; omega) c7
        obtain ⟨R4, w1, w2⟩ := y_emit (n := n) (v := -3) H (by rw [List.length_append, List.length_map]; omega) c8
        rw [c1, Option.bind_some, c2, Option.bind_some]
        dsimp only
        rw [if_neg (show ¬ (1 : Int32) = 0 by decide), show (-3 : Int32) = kC 2 from rfl, u1, Option.bind_some, nI_1]
        rw [show kC 2 = (-3 : Int32) from rfl, w1, Option.bind_some]
        dsimp only
        rcases ih p' (i + 1) f g (C ++ cs ++ [2]) (S ++ cs.map kM ++ [-3]) I3 R3 I2 R4 (by omega) (by omega) (by omega) (by omega) c4 (by simp only [List.length_append, List.length_singleton]; omega) (by simp only [List.length_append, List.length_singleton, List.length_map]; omega) u2 w2 with ⟨I5, R5, I6, R6, p2, cs2, z1, z2, z3, z4, z5, z6, z7, z8⟩ | ⟨I5, R5, I6, R6, p2, z1, z2, z3, z4, z5⟩
        · refine Or.inl ⟨I5, R5, I6, R6, p2, cs ++ (2 :: cs2), z1, z2, by omega, z4, by simp only [List.length_append, List.length_cons]; omega, fun h hh => ?_, ?_, ?_⟩
          · refine wf_app cs (2 :: cs2) (h + 1) (h + 1 + 1) (h + 1) (c6 (h + 1) (by omega)) ⟨Or.inr (Or.inl ⟨(Or.inr rfl), by omega⟩), ?_⟩
            have hh2 : hg 2 (h + 1 + 1) = h + 1 := by unfold hg; rw [if_neg (by decide), if_pos (Or.inr rfl)]; rfl
            rw [hh2]
            exact z6 h hh
          · rw [show C ++ (cs ++ 2 :: cs2) = C ++ cs ++ [2] ++ cs2 by simp only [List.append_assoc, List.singleton_append]]
            exact z7
          · rw [show S ++ (cs ++ 2 :: cs2).map kM = S ++ cs.map kM ++ [-3] ++ cs2.map kM by rw [List.map_append, List.map_cons, show kM 2 = (-3 : Int32) from rfl]; simp only [List.append_assoc, List.singleton_append]]
            exact z8
        · exact Or.inr ⟨I5, R5, I6, R6, p2, z1, z2, z3, z4, z5⟩
      · refine Or.inr ⟨I1, R1, I2, R2, p', ?_, ?_, c3, c4, c5⟩
        · rw [c1, Option.bind_some]
          dsimp only
          rw [if_pos (show (0 : Int32) = 0 from rfl)]
        · rw [c2, Option.bind_some]
          dsimp only
          rw [y_emitW c5, Option.bind_some]
          dsimp only
          obtain ⟨g, rfl⟩ : ∃ x, g = x + 1 := ⟨g - 1, by omega⟩
          rw [l_Md_some_4, c5.2.2, if_neg (show ¬ (1 : Int32) = 0 by decide)]
    · exact stop p i f g C S I R I' R' a hp h h'
theorem y_either (H : An T t k RC IM RM) {n o d : Nat} {fac : Int32 → (Nat → Int32) → (Nat → Nat → Int32) → Option (Int32 × MU)} {fM : (Nat → Int32) → (Nat → Nat → Int32) → Option MU} (hn : 200 ≤ n) (hf : SPf t k IC RC IM RM o d (p_Ni_readBoth n t fac (nI o)) (p_Md_every n fM)) : SPf t k IC RC IM RM o (d + 1) (p_Ni_readEither n t fac (nI o)) (p_Md_some n fM) := by
  intro p C S I R I' R' hp hC hS h h'
  have ht := H.1
  unfold p_Ni_readEither p_Md_some
  rcases hf p C S I R I' R' hp hC hS h h' with ⟨I1, R1, I2, R2, p', cs, c1, c2, c3, c4, c5, c6, c7, c8⟩ | ⟨I1, R1, I2, R2, p', c1, c2, c3, c4, c5⟩
  · rw [c1, Option.bind_some, c2, Option.bind_some]
    dsimp only
    rw [if_neg (show ¬ (1 : Int32) = 0 by decide)]
    rcases y_lpeither H (n := n) hf t p' 0 n n (C ++ cs) (S ++ cs.map kM) I1 R1 I2 R2 (by omega) (by omega) (by omega) (by omega) c4 (by rw [List.length_append]; omega) (by rw [List.length_append, List.length_map]; omega) c7 c8 with ⟨I5, R5, I6, R6, p2, cs2, z1, z2, z3, z4, z5, z6, z7, z8⟩ | ⟨I5, R5, I6, R6, p2, z1, z2, z3, z4, z5⟩
    · refine Or.inl ⟨I5, R5, I6, R6, p2, cs ++ cs2, z1, by rw [z2]; rfl, by omega, z4, by rw [List.length_append]; omega, fun h hh => wf_app cs cs2 h (h + 1) (h + 1) (c6 h (by omega)) (z6 h hh), by rw [← List.append_assoc]; exact z7, by rw [List.map_append, ← List.append_assoc]; exact z8⟩
    · exact Or.inr ⟨I5, R5, I6, R6, p2, z1, by rw [z2]; rfl, z3, z4, z5⟩
  · refine Or.inr ⟨I1, R1, I2, R2, p', ?_, ?_, c3, c4, c5⟩
    · rw [c1, Option.bind_some]
      dsimp only
      rw [if_pos (show (0 : Int32) = 0 from rfl)]
    · rw [c2, Option.bind_some]
      dsimp only
      obtain ⟨g, hg⟩ : ∃ x, n = x + 1 := ⟨n - 1, by omega⟩
      have e : ∀ g, l_Md_some_4 n fM (g + 1) I2 R2 = some (I2, R2) := fun g => by rw [l_Md_some_4, c5.2.2, if_neg (show ¬ (1 : Int32) = 0 by decide)]
      have e2 := e g
      rw [← hg] at e2
      rw [e2]; rfl
theorem y_eitherW {n p : Nat} {fM : (Nat → Int32) → (Nat → Nat → Int32) → Option MU} {I : Nat → Int32} {R : Nat → Nat → Int32} (hn : 200 ≤ n) (hf : ∀ p I R, WM k IM RM p I R → fM I R = some (I, R)) (h : WM k IM RM p I R) : p_Md_some n fM I R = some (I, R) := by
  unfold p_Md_some
  rw [y_bothW hn hf h, Option.bind_some]
  dsimp only
  obtain ⟨g, hg⟩ : ∃ x, n = x + 1 := ⟨n - 1, by omega⟩
  have e : ∀ g, l_Md_some_4 n fM (g + 1) I R = some (I, R) := fun g => by rw [l_Md_some_4, h.2.2, if_neg (show ¬ (1 : Int32) = 0 by decide)]
  have e2 := e g
  rw [← hg] at e2
  rw [e2]; rfl
end yy
