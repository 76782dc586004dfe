/-! ===== words and letters in step ===== -/
theorem y_len {n v : Nat} (hv : v < 12) : p_String_length n v = some (nI (lenS.getD v 0)) := by
  have h : ∀ v, v < 12 → (sLen v) >>> ((0 : Int32) &&& 31) = nI (lenS.getD v 0) := by decide +kernel
  show some ((sLen v) >>> ((0 : Int32) &&& 31)) = _
  rw [h v hv]
theorem y_chr {n v i : Nat} (hv : v < 12) (hi : i < lenS.getD v 0) : p_String_charAt n v (nI i) = some (sCh v i) := by
  have h : ∀ v, v < 12 → ∀ i, i < lenS.getD v 0 → p_String_charAt 0 v (nI i) = some (sCh v i) := by decide +kernel
  exact h v hv i hi
theorem y_ll : ∀ v, v < 12 → (bytS.getD v []).length = lenS.getD v 0 ∧ lenS.getD v 0 ≤ 6 ∧ ∀ c ∈ bytS.getD v [], c ≠ -1 := by decide +kernel
def tkL (T : Nat → Nat) (t : Nat) : List Int32 → Nat → Bool × Nat
  | [], p => (true, p)
  | c :: cs, p => if c = sg T t p then tkL T t cs (p + 1) else (false, p)
theorem tkL_app (T : Nat → Nat) (t : Nat) (ys : List Int32) : ∀ (xs : List Int32) (p : Nat), tkL T t (xs ++ ys) p = if (tkL T t xs p).1 = true then tkL T t ys (tkL T t xs p).2 else tkL T t xs p
  | [], p => rfl
  | c :: cs, p => by
    rw [List.cons_append]
    show (if c = sg T t p then tkL T t (cs ++ ys) (p + 1) else (false, p)) = _
    by_cases h : c = sg T t p
    · rw [if_pos h, tkL_app T t ys cs (p + 1), show tkL T t (c :: cs) p = tkL T t cs (p + 1) by show (if c = sg T t p then _ else _) = _; rw [if_pos h]]
    · rw [if_neg h, show tkL T t (c :: cs) p = (false, p) by show (if c = sg T t p then _ else _) = _; rw [if_neg h]]; rfl
theorem y_drop {v i : Nat} {c : Int32} {cs : List Int32} (hv : v < 12) (h : (bytS.getD v []).drop i = c :: cs) : i < lenS.getD v 0 ∧ sCh v i = c ∧ (bytS.getD v []).drop (i + 1) = cs := by
  obtain ⟨h1, h2, h3⟩ := y_ll v hv
  have hl : ((bytS.getD v []).drop i).length = cs.length + 1 := by rw [h]; rfl
  rw [List.length_drop] at hl
  refine ⟨by omega, ?_, ?_⟩
  · unfold sCh
    have := congrArg (fun l => l.getD 0 0) h
    simp only [List.getD_eq_getElem?_getD, List.getElem?_drop, Nat.add_zero] at this
    rw [List.getD_eq_getElem?_getD]
    exact this
  · rw [← List.tail_drop, h]; rfl
section yy
variable {T : Nat → Nat} {t k : Nat} {IC : Nat → Int32} {RC : Nat → Nat → Int32} {IM : Nat → Int32} {RM : Nat → Nat → Int32}
theorem y_tal (H : An T t k RC IM RM) {n v : Nat} (hv : v < 12) : ∀ (cs : List Int32) (i p f : Nat) (C : List Nat) (I : Nat → Int32) (R : Nat → Nat → Int32), (bytS.getD v []).drop i = cs → i ≤ 6 → cs.length < f → p ≤ t → JC IC RC p C I R → ∃ I', l_Ni_takeAll_2 n t v f (nI i) I R = some (b2i (tkL T t cs p).1, I', R) ∧ JC IC RC (tkL T t cs p).2 C I' R ∧ (tkL T t cs p).2 ≤ t ∧ p ≤ (tkL T t cs p).2
  | [], i, p, f, C, I, R, hd, hi, hf, hp, h => by
    obtain ⟨f, rfl⟩ : ∃ g, f = g + 1 := ⟨f - 1, by simp at hf; omega⟩
    obtain ⟨h1, h2, h3⟩ := y_ll v hv
    have hl : ((bytS.getD v []).drop i).length = 0 := by rw [hd]; rfl
    rw [List.length_drop] at hl
    refine ⟨I, ?_, h, hp, Nat.le_refl _⟩
    rw [l_Ni_takeAll_2, y_len hv, Option.bind_some, if_pos (nI_le (by omega) (by omega))]; rfl
  | c :: cs, i, p, f, C, I, R, hd, hi, hf, hp, h => by
    obtain ⟨f, rfl⟩ : ∃ g, f = g + 1 := ⟨f - 1, by simp at hf; omega⟩
    obtain ⟨h1, h2, h3⟩ := y_ll v hv
    obtain ⟨d1, d2, d3⟩ := y_drop hv hd
    have hc : c ≠ -1 := h3 c (List.mem_of_mem_drop (i := i) (by rw [hd]; exact List.mem_cons_self))
    rw [l_Ni_takeAll_2, y_len hv, Option.bind_some, if_neg (nI_ge (by omega) (by omega)), y_chr hv d1, Option.bind_some, d2]
    unfold tkL
    rcases y_take (n := n) H hc hp h with ⟨a, b, e, g⟩ | ⟨a, e⟩
    · rw [e, Option.bind_some, if_pos a]
      dsimp only
      rw [if_neg (by decide), nI_1]
      obtain ⟨I', g1, g2, g3, g4⟩ := y_tal H (n := n) hv cs (i + 1) (p + 1) f C _ R d3 (by omega) (by simp at hf; omega) b g
      exact ⟨I', g1, g2, g3, by omega⟩
    · rw [e, Option.bind_some, if_neg a]
      dsimp only
      rw [if_pos rfl]
      exact ⟨I, rfl, h, hp, Nat.le_refl _⟩
theorem y_takeAll (H : An T t k RC IM RM) {n v p : Nat} {C : List Nat} {I : Nat → Int32} {R : Nat → Nat → Int32} (hn : 10 ≤ n) (hv : v < 12) (hp : p ≤ t) (h : JC IC RC p C I R) : ∃ I', p_Ni_takeAll n t v I R = some (b2i (tkL T t (bytS.getD v []) p).1, I', R) ∧ JC IC RC (tkL T t (bytS.getD v []) p).2 C I' R ∧ (tkL T t (bytS.getD v []) p).2 ≤ t ∧ p ≤ (tkL T t (bytS.getD v []) p).2 := by
  obtain ⟨h1, h2, h3⟩ := y_ll v hv
  exact y_tal H hv (bytS.getD v []) 0 p n C I R rfl (by omega) (by omega) hp h
theorem y_splW (H : An T t k RC IM RM) {n v : Nat} (hv : v < 12) : ∀ (cs : List Int32) (i p f : Nat) (I : Nat → Int32) (R : Nat → Nat → Int32), (bytS.getD v []).drop i = cs → i ≤ 6 → cs.length < f → WM k IM RM p I R → ∃ I', l_Md_spells_2 n v f (nI i) I R = some (I', R) ∧ WM k IM RM p I' R
  | [], i, p, f, I, R, hd, hi, hf, h => by
    obtain ⟨f, rfl⟩ : ∃ g, f = g + 1 := ⟨f - 1, by simp at hf; omega⟩
    obtain ⟨h1, h2, h3⟩ := y_ll v hv
    have hl : ((bytS.getD v []).drop i).length = 0 := by rw [hd]; rfl
    rw [List.length_drop] at hl
    refine ⟨I, ?_, h⟩
    rw [l_Md_spells_2, y_len hv, Option.bind_some, if_pos (nI_le (by omega) (by omega))]
  | c :: cs, i, p, f, I, R, hd, hi, hf, h => by
    obtain ⟨f, rfl⟩ : ∃ g, f = g + 1 := ⟨f - 1, by simp at hf; omega⟩
    obtain ⟨h1, h2, h3⟩ := y_ll v hv
    obtain ⟨d1, d2, d3⟩ := y_drop hv hd
    obtain ⟨I1, e, g⟩ := y_mustW (n := n) (v := c) h
    rw [l_Md_spells_2, y_len hv, Option.bind_some, if_neg (nI_ge (by omega) (by omega)), y_chr hv d1, Option.bind_some, d2, e, Option.bind_some]
    dsimp only
    rw [nI_1]
    exact y_splW H hv cs (i + 1) p f I1 R d3 (by omega) (by simp at hf; omega) g
theorem y_spl (H : An T t k RC IM RM) {n v : Nat} (hv : v < 12) : ∀ (cs : List Int32) (i p f : Nat) (S : List Int32) (o : Nat) (I : Nat → Int32) (R : Nat → Nat → Int32), (bytS.getD v []).drop i = cs → i ≤ 6 → cs.length < f → p ≤ t → JM k IM RM p S o I R → ∃ I', l_Md_spells_2 n v f (nI i) I R = some (I', R) ∧ (((tkL T t cs p).1 = true ∧ JM k IM RM (tkL T t cs p).2 S o I' R) ∨ ((tkL T t cs p).1 = false ∧ WM k IM RM (tkL T t cs p).2 I' R))
  | [], i, p, f, S, o, I, R, hd, hi, hf, hp, h => by
    obtain ⟨f, rfl⟩ : ∃ g, f = g + 1 := ⟨f - 1, by simp at hf; omega⟩
    obtain ⟨h1, h2, h3⟩ := y_ll v hv
    have hl : ((bytS.getD v []).drop i).length = 0 := by rw [hd]; rfl
    rw [List.length_drop] at hl
    refine ⟨I, ?_, Or.inl ⟨rfl, h⟩⟩
    rw [l_Md_spells_2, y_len hv, Option.bind_some, if_pos (nI_le (by omega) (by omega))]
  | c :: cs, i, p, f, S, o, I, R, hd, hi, hf, hp, h => by
    obtain ⟨f, rfl⟩ : ∃ g, f = g + 1 := ⟨f - 1, by simp at hf; omega⟩
    obtain ⟨h1, h2, h3⟩ := y_ll v hv
    obtain ⟨d1, d2, d3⟩ := y_drop hv hd
    have hc : c ≠ -1 := h3 c (List.mem_of_mem_drop (i := i) (by rw [hd]; exact List.mem_cons_self))
    rw [l_Md_spells_2, y_len hv, Option.bind_some, if_neg (nI_ge (by omega) (by omega)), y_chr hv d1, Option.bind_some, d2]
    unfold tkL
    rcases y_must (n := n) (v := c) H hp h with ⟨a, I1, e, g⟩ | ⟨a, I1, e, g⟩
    · rw [e, Option.bind_some, if_pos a]
      dsimp only
      rw [nI_1]
      exact y_spl H hv cs (i + 1) (p + 1) f S o I1 R d3 (by omega) (by simp at hf; omega) (y_sgl H a hc) g
    · rw [e, Option.bind_some, if_neg a]
      dsimp only
      rw [nI_1]
      obtain ⟨I2, g1, g2⟩ := y_splW H (n := n) hv cs (i + 1) p f I1 R d3 (by omega) (by simp at hf; omega) g
      exact ⟨I2, g1, Or.inr ⟨rfl, g2⟩⟩
theorem y_spells (H : An T t k RC IM RM) {n v p : Nat} {S : List Int32} {o : Nat} {I : Nat → Int32} {R : Nat → Nat → Int32} (hn : 10 ≤ n) (hv : v < 12) (hp : p ≤ t) (h : JM k IM RM p S o I R) : ∃ I', p_Md_spells n v I R = some (I', R) ∧ (((tkL T t (bytS.getD v []) p).1 = true ∧ JM k IM RM (tkL T t (bytS.getD v []) p).2 S o I' R) ∨ ((tkL T t (bytS.getD v []) p).1 = false ∧ WM k IM RM (tkL T t (bytS.getD v []) p).2 I' R)) := by
  obtain ⟨h1, h2, h3⟩ := y_ll v hv
  obtain ⟨I', e, g⟩ := y_spl H (n := n) hv (bytS.getD v []) 0 p n S o I R rfl (by omega) (by omega) hp h
  refine ⟨I', ?_, g⟩
  unfold p_Md_spells
  rw [show (0 : Int32) = nI 0 from rfl, e]; rfl
theorem y_spellsW (H : An T t k RC IM RM) {n v p : Nat} {I : Nat → Int32} {R : Nat → Nat → Int32} (hn : 10 ≤ n) (hv : v < 12) (h : WM k IM RM p I R) : ∃ I', p_Md_spells n v I R = some (I', R) ∧ WM k IM RM p I' R := by
  obtain ⟨h1, h2, h3⟩ := y_ll v hv
  obtain ⟨I', e, g⟩ := y_splW H (n := n) hv (bytS.getD v []) 0 p n I R rfl (by omega) (by omega) h
  refine ⟨I', ?_, g⟩
  unfold p_Md_spells
  rw [show (0 : Int32) = nI 0 from rfl, e]; rfl
/-- the first place of a letter -/
def fx : List Int32 → Int32 → Nat → Option Nat
  | [], _, _ => none
  | x :: l, c, i => if c = x then some i else fx l c (i + 1)
theorem fx_lt : ∀ (l : List Int32) (c : Int32) (i j : Nat), fx l c i = some j → j < i + l.length
  | [], c, i, j, h => by cases h
  | x :: l, c, i, j, h => by
    unfold fx at h
    by_cases q : c = x
    · rw [if_pos q] at h; cases h; simp
    · rw [if_neg q] at h
      have := fx_lt l c (i + 1) j h
      simp only [List.length_cons]; omega
theorem fx_no : ∀ (l : List Int32) (c : Int32) (i : Nat), (∀ x ∈ l, x ≠ c) → fx l c i = none
  | [], c, i, h => rfl
  | x :: l, c, i, h => by
    unfold fx
    rw [if_neg (fun e => h x List.mem_cons_self e.symm)]
    exact fx_no l c (i + 1) (fun y hy => h y (List.mem_cons_of_mem _ hy))
def oI (o : Option Nat) : Int32 := match o with | some j => nI j | none => -1
theorem y_ioc {n v : Nat} {c : Int32} (hv : v < 12) : ∀ (l : List Int32) (i f : Nat), (bytS.getD v []).drop i = l → i ≤ 6 → l.length < f → l_SL1_indexOfChar_7 n v (nI (lenS.getD v 0)) c f (nI i) = some (oI (fx l c i))
  | [], i, f, hd, hi, hf => by
    obtain ⟨f, rfl⟩ : ∃ g, f = g + 1 := ⟨f - 1, by simp at hf; omega⟩
    obtain ⟨h1, h2, h3⟩ := y_ll v hv
    have hl : ((bytS.getD v []).drop i).length = 0 := by rw [hd]; rfl
    rw [List.length_drop] at hl
    rw [l_SL1_indexOfChar_7, if_pos (nI_le (by omega) (by omega))]; rfl
  | x :: l, i, f, hd, hi, hf => by
    obtain ⟨f, rfl⟩ : ∃ g, f = g + 1 := ⟨f - 1, by simp at hf; omega⟩
    obtain ⟨h1, h2, h3⟩ := y_ll v hv
    obtain ⟨d1, d2, d3⟩ := y_drop hv hd
    rw [l_SL1_indexOfChar_7, if_neg (nI_ge (by omega) (by omega)), if_pos (nI_in d1 (by omega)), nI_clamp (by omega), d2]
    unfold fx
    by_cases q : c = x
    · rw [if_pos q, if_pos q.symm]; rfl
    · rw [if_neg q, if_neg (fun e => q e.symm), nI_1]
      exact y_ioc hv l (i + 1) f d3 (by omega) (by simp at hf; omega)
theorem y_c8 : ∀ c, c ≤ 127 → ((((nI c).toUInt32 % 65536).toInt32) < 0 ↔ False) ∧ (255 < (((nI c).toUInt32 % 65536).toInt32) ↔ False) ∧ (((nI c).toUInt32 % 65536).toInt32).toInt8.toInt32 = nI c := by decide +kernel
theorem y_idx (H : An T t k RC IM RM) {n v p : Nat} {C : List Nat} {I : Nat → Int32} {R : Nat → Nat → Int32} (hn : 10 ≤ n) (hv : v < 12) (h0 : 0 < lenS.getD v 0) (hp : p ≤ t) (h : JC IC RC p C I R) : p_Ni_indexIn n t v I R = some (oI (fx (bytS.getD v []) (sg T t p) 0)) := by
  obtain ⟨h1, h2, h3⟩ := y_ll v hv
  obtain ⟨j1, j2, j3, j4, j5⟩ := h
  have ht := H.1
  unfold p_Ni_indexIn
  rw [j3]
  rcases y_sgr (p := p) H with ⟨a, b, c⟩ | ⟨a, b⟩
  · obtain ⟨c1, c2, c3⟩ := y_c8 (T p) c
    rw [if_neg (nI_ge a (by omega)), if_pos (nI_in a (by omega)), nI_clamp (by omega), j2 3 (by decide), (H.2.2.1 p a).2.1, b]
    have e : p_String_indexOf n v (((nI (T p)).toUInt32 % 65536).toInt32) = some (oI (fx (bytS.getD v []) (nI (T p)) 0)) := by
      unfold p_String_indexOf p_String_indexOf_o1 p_String_isLatin1
      rw [Option.bind_some, if_neg (show ¬ (1 : Int32) = 0 by decide), y_len hv, Option.bind_some]
      have e1 : p_SL1_indexOf n v (((nI (T p)).toUInt32 % 65536).toInt32) 0 (nI (lenS.getD v 0)) = some (oI (fx (bytS.getD v []) (nI (T p)) 0)) := by
        unfold p_SL1_indexOf p_SL1_canEncode
        rw [if_neg (fun q => c1.mp q), if_neg (fun q => c2.mp q)]
        show (if (jmax 0 0) < (jmin (nI (lenS.getD v 0)) (nI (lenS.getD v 0))) then (p_SL1_indexOfChar n v _ (jmax 0 0) (jmin (nI (lenS.getD v 0)) (nI (lenS.getD v 0)))).bind fun x4 => some x4 else some (-1)) = _
        rw [show jmax 0 0 = nI 0 from rfl, show jmin (nI (lenS.getD v 0)) (nI (lenS.getD v 0)) = nI (lenS.getD v 0) by simp only [jmin, ite_self], if_pos (nI_lt h0 (by omega))]
        unfold p_SL1_indexOfChar
        rw [c3, y_ioc hv (bytS.getD v []) 0 n rfl (by omega) (by omega)]; rfl
      rw [e1]; rfl
    rw [e]; rfl
  · rw [if_pos (nI_le (by omega) (by omega)), b, fx_no _ _ _ h3]; rfl
theorem y_aml (H : An T t k RC IM RM) {n v p : Nat} {I : Nat → Int32} {R : Nat → Nat → Int32} (hv : v < 12) (hp : p ≤ t) (hF : FM k IM RM I R) (h5 : I 5 = nI p) : ∀ (l : List Int32) (i f : Nat), (bytS.getD v []).drop i = l → i ≤ 6 → l.length < f → l_Md_among_2 n v I R f (nI i) = (match fx l (sg T t p) i with | some j => some (nI j, upd I 5 (nI (p + 1)), R) | none => some (-1, I, R))
  | [], i, f, hd, hi, hf => by
    obtain ⟨f, rfl⟩ : ∃ g, f = g + 1 := ⟨f - 1, by simp at hf; omega⟩
    obtain ⟨h1, h2, h3⟩ := y_ll v hv
    have hl : ((bytS.getD v []).drop i).length = 0 := by rw [hd]; rfl
    rw [List.length_drop] at hl
    rw [l_Md_among_2, y_len hv, Option.bind_some, if_pos (nI_le (by omega) (by omega))]; rfl
  | x :: l, i, f, hd, hi, hf => by
    obtain ⟨f, rfl⟩ : ∃ g, f = g + 1 := ⟨f - 1, by simp at hf; omega⟩
    obtain ⟨h1, h2, h3⟩ := y_ll v hv
    obtain ⟨d1, d2, d3⟩ := y_drop hv hd
    rw [l_Md_among_2, y_len hv, Option.bind_some, if_neg (nI_ge (by omega) (by omega)), y_here H hp hF h5, Option.bind_some, y_chr hv d1, Option.bind_some, d2]
    unfold fx
    by_cases q : sg T t p = x
    · rw [if_pos q, if_pos q, h5, nI_1]
    · rw [if_neg q, if_neg q, nI_1]
      exact y_aml H hv hp hF h5 l (i + 1) f d3 (by omega) (by simp at hf; omega)
theorem y_among (H : An T t k RC IM RM) {n v p : Nat} {I : Nat → Int32} {R : Nat → Nat → Int32} (hn : 10 ≤ n) (hv : v < 12) (hp : p ≤ t) (hF : FM k IM RM I R) (h5 : I 5 = nI p) : p_Md_among n v I R = (match fx (bytS.getD v []) (sg T t p) 0 with | some j => some (nI j, upd I 5 (nI (p + 1)), R) | none => some (-1, I, R)) := by
  obtain ⟨h1, h2, h3⟩ := y_ll v hv
  exact y_aml H hv hp hF h5 (bytS.getD v []) 0 n rfl (by omega) (by omega)
theorem fx_sg (H : An T t k RC IM RM) {v p j : Nat} (hv : v < 12) (h : fx (bytS.getD v []) (sg T t p) 0 = some j) : p < t ∧ j < lenS.getD v 0 := by
  obtain ⟨h1, h2, h3⟩ := y_ll v hv
  refine ⟨?_, by have := fx_lt _ _ _ _ h; omega⟩
  rcases y_sgr (p := p) H with ⟨a, b, c⟩ | ⟨a, b⟩
  · exact a
  · rw [b, fx_no _ _ _ h3] at h; cases h
end yy
