/-! ===== a whole night in step ===== -/
section yy
variable {T : Nat → Nat} {t k : Nat} {IC : Nat → Int32} {RC : Nat → Nat → Int32} {IM : Nat → Int32} {RM : Nat → Nat → Int32}
theorem y_clause {n p : Nat} {L : List Cls} {be he oi : Nat} {I : Nat → Int32} {R : Nat → Nat → Int32} {I' : Nat → Int32} {R' : Nat → Nat → Int32} {kont : (Nat → Int32) → (Nat → Nat → Int32) → Option (Int32 × MU)} (hn : 200 ≤ n) (h : KL T t k IM RM L be he oi p I R I' R') (hL : L.length < 10) : OutC T t k IM RM L.length kont (cBody n t kont I R) (p_Md_clauseHere n I' R') := by
  have h0 := h
  obtain ⟨H, h2, h3, hb, hl, hi, h7, h8, h9, ht, h11⟩ := h
  have ht100 := H.1
  have es : ∀ q, q ≤ 200 → p_Ni_signAt n t (nI q) I R = some (sg T t q) := fun q hq => y_sat H (C := []) hq rfl
  have er : p_Ni_signAt n t (I 4) I R = some (sg T t p) := by rw [h8.2.2.1]; exact es p (by omega)
  have er1 : p_Ni_signAt n t (I 4 + 1) I R = some (sg T t (p + 1)) := by rw [h8.2.2.1, nI_1]; exact es (p + 1) (by omega)
  unfold p_Md_clauseHere
  rw [y_here H h2 h9.1 h9.2.1, Option.bind_some]
  by_cases q1 : sg T t p = 98
  · rw [if_pos q1]
    have hpt : p < t := y_sgl H (v := 98) q1.symm (by decide)
    have htk : ∀ cs, tkL T t ((98 : Int32) :: cs) p = tkL T t cs (p + 1) := fun cs => by
      show (if (98 : Int32) = sg T t p then _ else _) = _
      rw [if_pos q1.symm]
    rcases y_must (n := n) (v := 98) H h2 h9 with ⟨a, Im, e, g⟩ | ⟨a, _⟩
    · have eb : p_Md_clauseOfB n I' R' = if sg T t (p + 1) = 97 then mBar n Im R' else p_Md_tellsHere n (nI (160 + 5 * 2)) 9 Im R' := by
        unfold p_Md_clauseOfB
        rw [e, Option.bind_some]
        dsimp only
        rw [y_here H hpt g.1 g.2.1, Option.bind_some]
        by_cases q : sg T t (p + 1) = 97
        · rw [if_pos q, if_pos q]; rfl
        · rw [if_neg q, if_neg q]
          show (p_Md_tellsHere n (nI (160 + 5 * 2)) 9 Im R').bind (fun x => some (x.1, x.2)) = _
          cases p_Md_tellsHere n (nI (160 + 5 * 2)) 9 Im R' <;> rfl
      have eb2 : ((p_Md_clauseOfB n I' R').bind fun (I4, R5) => some (I4, R5)) = p_Md_clauseOfB n I' R' := by cases p_Md_clauseOfB n I' R' <;> rfl
      rw [eb2, eb]
      by_cases q : sg T t (p + 1) = 97
      · rw [if_pos q]
        refine y_bar hn h0 hL ?_ hpt g (htk _)
        unfold p_Ni_readWord
        rw [er, Option.bind_some, if_pos q1, er1, Option.bind_some, if_pos q]; rfl
      · rw [if_neg q]
        refine y_tells (v := 4) (vm := 9) hn (Or.inl rfl) (by decide) (by decide) h0 hL ?_ hpt g (htk _)
        unfold p_Ni_readWord
        rw [er, Option.bind_some, if_pos q1, er1, Option.bind_some, if_neg q]; rfl
    · exact absurd q1.symm a
  · rw [if_neg q1]
    by_cases q2 : sg T t p = 104
    · rw [if_pos q2]
      have eb2 : ((p_Md_tellsHere n 175 10 I' R').bind fun (I7, R8) => some (I7, R8)) = p_Md_tellsHere n (nI (160 + 5 * 3)) 10 I' R' := by
        show (p_Md_tellsHere n (nI (160 + 5 * 3)) 10 I' R').bind _ = _
        cases p_Md_tellsHere n (nI (160 + 5 * 3)) 10 I' R' <;> rfl
      rw [eb2]
      refine y_tells (v := 1) (vm := 10) hn (Or.inr (Or.inl rfl)) (by decide) (by decide) h0 hL ?_ h2 h9 rfl
      unfold p_Ni_readWord
      rw [er, Option.bind_some, if_neg q1, if_pos q2]; rfl
    · rw [if_neg q2]
      by_cases q3 : sg T t p = 111
      · rw [if_pos q3]
        have eb2 : ((p_Md_tellsHere n 180 11 I' R').bind fun (I7, R8) => some (I7, R8)) = p_Md_tellsHere n (nI (160 + 5 * 4)) 11 I' R' := by
          show (p_Md_tellsHere n (nI (160 + 5 * 4)) 11 I' R').bind _ = _
          cases p_Md_tellsHere n (nI (160 + 5 * 4)) 11 I' R' <;> rfl
        rw [eb2]
        refine y_tells (v := 2) (vm := 11) hn (Or.inr (Or.inr rfl)) (by decide) (by decide) h0 hL ?_ h2 h9 rfl
        unfold p_Ni_readWord
        rw [er, Option.bind_some, if_neg q1, if_neg q2, if_pos q3]; rfl
      · rw [if_neg q3]
        by_cases q4 : sg T t p = 115
        · rw [if_pos q4]
          refine y_slow hn h0 hL ?_
          unfold p_Ni_readWord
          rw [er, Option.bind_some, if_neg q1, if_neg q2, if_neg q3, if_pos q4]; rfl
        · rw [if_neg q4, cB_f (I1 := I) (R1 := R) (by unfold p_Ni_readWord; rw [er, Option.bind_some, if_neg q1, if_neg q2, if_neg q3, if_neg q4])]
          exact Or.inr ⟨I, R, _, R', p, by rw [h8.2.2.1], rfl, h2, ⟨fun i a b c => by rw [y_ud b]; exact h11.1 i a b c, h11.2⟩, by rw [y_ud (by decide)]; exact h9.2.1, pk_us⟩
def OutN (T : Nat → Nat) (t k : Nat) (IM : Nat → Int32) (RM : Nat → Nat → Int32) (rc : Option (Int32 × MU)) (rm : Option MU) : Prop :=
  (∃ I1 R1 I2 R2 L be he oi, rc = some (-1, I1, R1) ∧ rm = some (I2, R2) ∧ KL T t k IM RM L be he oi t I1 R1 I2 R2 ∧ L.length ≤ 10) ∨ (∃ I1 R1 I2 R2 p', rc = some (nI p', I1, R1) ∧ rm = some (I2, R2) ∧ p' ≤ t ∧ F2 k IM RM I2 R2 ∧ I2 5 = nI p' ∧ (I2 7 = 1 ∨ (I2 7 = 0 ∧ p' ≠ t)))
theorem KL_adv {p : Nat} {L : List Cls} {be he oi : Nat} {I : Nat → Int32} {R : Nat → Nat → Int32} {I' : Nat → Int32} {R' : Nat → Nat → Int32} (h : KL T t k IM RM L be he oi p I R I' R') (hp : p < t) : KL T t k IM RM L be he oi (p + 1) (upd I 4 (nI (p + 1))) R (upd I' 5 (nI (p + 1))) R' := by
  obtain ⟨H, h2, h3, hb, hl, ⟨i1, i2, i3, i4⟩, h7, h8, h9, ht, h11⟩ := h
  refine ⟨⟨H.1, H.2.1, H.2.2.1, by rw [y_ud (by decide)]; exact H.2.2.2.1, by rw [y_ud (by decide)]; exact H.2.2.2.2⟩, hp, h3, hb, ⟨by omega, by omega⟩, ⟨by rw [y_ud (by decide)]; exact i1, by rw [y_ud (by decide)]; exact i2, by rw [y_ud (by decide)]; exact i3, by rw [y_ud (by decide)]; exact i4⟩, h7, ⟨fun _ _ _ => rfl, fun _ _ => rfl, pk_us, by rw [y_ud (by decide)]; exact h8.2.2.2.1, h8.2.2.2.2⟩, ⟨FM_r, pk_us, by rw [y_ud (by decide)]; exact h9.2.2.1, by rw [y_ud (by decide)]; exact h9.2.2.2.1, h9.2.2.2.2⟩, ht, ⟨fun i a b c => by rw [y_ud a]; exact h11.1 i a b c, h11.2⟩⟩
theorem y_loop {n : Nat} (hn : 200 ≤ n) : ∀ (r m p f g : Nat) (L : List Cls) (be he oi : Nat) (I : Nat → Int32) (R : Nat → Nat → Int32) (I' : Nat → Int32) (R' : Nat → Nat → Int32), L.length = m + 1 → m + 1 ≤ 10 → 10 ≤ m + r → r + 2 ≤ f → r + 2 ≤ g → KL T t k IM RM L be he oi p I R I' R' → OutN T t k IM RM (kNt n t f (nI m) I R) (l_Md_night_118 n g (nI (m + 1)) I' R') := by
  intro r
  induction r with
  | zero => intro m p f g L be he oi I R I' R' hL hm hr; omega
  | succ r ih =>
    intro m p f g L be he oi I R I' R' hL hm hr hf hg2 h
    have h0 := h
    obtain ⟨H, h2, h3, hb, hl, hi, h7, h8, h9, ht, h11⟩ := h
    have ht100 := H.1
    obtain ⟨f, rfl⟩ : ∃ x, f = x + 1 := ⟨f - 1, by omega⟩
    obtain ⟨g, rfl⟩ : ∃ x, g = x + 1 := ⟨g - 1, by omega⟩
    unfold kNt
    rw [h8.2.2.1, l_Md_night_118, if_pos h9.2.2.1, y_here H h2 h9.1 h9.2.1, Option.bind_some]
    by_cases hpt : p = t
    · subst hpt
      rw [if_pos rfl, if_neg (show ¬ sg T p p = 59 from fun e => by have := y_sgl H (v := 59) e.symm (by decide); omega), ite_self]
      exact Or.inl ⟨I, R, I', R', L, be, he, oi, rfl, rfl, h0, by omega⟩
    · rw [if_neg (fun e => hpt ((nI_eq (by omega) (by omega)).mp e)), nI_1, y_read_eq]
      have stop : OutN T t k IM RM (some (I 4, I, R)) (some (I', R')) := Or.inr ⟨I, R, I', R', p, by rw [h8.2.2.1], rfl, h2, h11, h9.2.1, Or.inr ⟨h9.2.2.1, hpt⟩⟩
      by_cases h10 : m + 1 = 10
      · rw [if_pos (show (10 : Int32) ≤ nI (m + 1) by rw [h10]; decide), if_pos (show (10 : Int32) ≤ nI (m + 1) by rw [h10]; decide)]
        exact stop
      · rw [if_neg (show ¬ (10 : Int32) ≤ nI (m + 1) from nI_ge (b := 10) (by omega) (by omega)), if_neg (show ¬ (10 : Int32) ≤ nI (m + 1) from nI_ge (b := 10) (by omega) (by omega)), if_neg (nI_nle (by omega) (by omega))]
        rcases y_take (n := n) H (show (59 : Int32) ≠ -1 by decide) h2 h8 with ⟨a, b, e, j⟩ | ⟨a, e⟩
        · rw [e, Option.bind_some, if_pos a.symm, h9.2.1, nI_1]
          dsimp only
          rw [if_neg (show ¬ (1 : Int32) = 0 by decide)]
          rcases y_clause (n := n) (kont := kNt n t f (nI (m + 1))) hn (KL_adv h0 b) (by omega) with ⟨I1, R1, I2, R2, p', L', be', he', oi', c1, c2, c3, c4⟩ | ⟨I1, R1, I2, R2, p', c1, c2, c3, c4, c5, c6⟩
          · rw [c1, c2, Option.bind_some]
            dsimp only
            rw [nI_1]
            exact ih (m + 1) p' f g L' be' he' oi' I1 R1 I2 R2 (by omega) (by omega) (by omega) (by omega) (by omega) c3
          · rw [c1, c2, Option.bind_some]
            dsimp only
            obtain ⟨g, rfl⟩ : ∃ x, g = x + 1 := ⟨g - 1, by omega⟩
            rw [l_Md_night_118, if_neg (show ¬ I2 7 = 0 by rw [c6]; decide)]
            exact Or.inr ⟨I1, R1, I2, R2, p', rfl, rfl, c3, c4, c5, Or.inl c6⟩
        · rw [e, Option.bind_some, if_neg (fun x => a x.symm)]
          dsimp only
          rw [if_pos (show (0 : Int32) = 0 from rfl)]
          exact stop
theorem y_night {n : Nat} {I : Nat → Int32} {R : Nat → Nat → Int32} {I' : Nat → Int32} {R' : Nat → Nat → Int32} (hn : 200 ≤ n) (h : KL T t k IM RM [] 2 99 0 0 I R I' R') : OutN T t k IM RM (p_Ni_read n t I R) ((p_Md_clauseHere n I' R').bind fun (I6, R7) => l_Md_night_118 n n 1 I6 R7) := by
  obtain ⟨f, hf⟩ : ∃ x, n = x + 1 := ⟨n - 1, by omega⟩
  have e : p_Ni_read n t I R = cBody n t (kNt n t f (nI 0)) I R := by
    unfold p_Ni_read
    have : ∀ f, l_Ni_read_2 n t (f + 1) 0 I R = cBody n t (kNt n t f (nI 0)) I R := fun f => by
      rw [y_read_eq, if_neg (show ¬ (10 : Int32) ≤ 0 by decide), if_pos (show (0 : Int32) ≤ 0 by decide)]; rfl
    have e2 := this f
    rw [← hf] at e2
    exact e2
  rw [e]
  rcases y_clause (n := n) (kont := kNt n t f (nI 0)) hn h (by decide) with ⟨I1, R1, I2, R2, p', L', be', he', oi', c1, c2, c3, c4⟩ | ⟨I1, R1, I2, R2, p', c1, c2, c3, c4, c5, c6⟩
  · rw [c1, c2, Option.bind_some]
    exact y_loop hn 10 0 p' f n L' be' he' oi' I1 R1 I2 R2 c4 (by omega) (by omega) (by omega) (by omega) c3
  · rw [c1, c2, Option.bind_some]
    dsimp only
    have e3 : ∀ f, l_Md_night_118 n (f + 1) 1 I2 R2 = some (I2, R2) := fun f => by rw [l_Md_night_118, if_neg (show ¬ I2 7 = 0 by rw [c6]; decide)]
    have e4 := e3 f
    rw [← hf] at e4
    rw [e4]
    exact Or.inr ⟨I1, R1, I2, R2, p', rfl, rfl, c3, c4, c5, Or.inl c6⟩
end yy
