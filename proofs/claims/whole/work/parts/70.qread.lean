/-! ===== the two readers of a night, in step ===== -/
def sg (T : Nat → Nat) (t p : Nat) : Int32 := if p < t then nI (T p) else -1
def An (T : Nat → Nat) (t k : Nat) (RC : Nat → Nat → Int32) (IM : Nat → Int32) (RM : Nat → Nat → Int32) : Prop := t ≤ 100 ∧ k < 5 ∧ (∀ j, j < t → T j ≤ 127 ∧ RC 3 j = nI (T j) ∧ RM 1 (70 + j) = nI (T j)) ∧ IM 4 = nI k ∧ IM 6 = nI t
def JC (IC : Nat → Int32) (RC : Nat → Nat → Int32) (p : Nat) (C : List Nat) (I : Nat → Int32) (R : Nat → Nat → Int32) : Prop := (∀ i, i ≠ 4 → i ≠ 6 → I i = IC i) ∧ (∀ r, r ≠ 5 → R r = RC r) ∧ I 4 = nI p ∧ I 6 = nI C.length ∧ ∀ j, j < C.length → R 5 j = kC (C.getD j 0)
def FM (k : Nat) (IM : Nat → Int32) (RM : Nat → Nat → Int32) (I : Nat → Int32) (R : Nat → Nat → Int32) : Prop := (∀ i, i ≠ 5 → i ≠ 7 → i ≠ 8 → I i = IM i) ∧ (∀ r, r ≠ 1 → R r = RM r) ∧ ∀ j, j ≠ 185 + k → ¬ (190 + 140 * k ≤ j ∧ j < 330 + 140 * k) → R 1 j = RM 1 j
def JM (k : Nat) (IM : Nat → Int32) (RM : Nat → Nat → Int32) (p : Nat) (S : List Int32) (o : Nat) (I : Nat → Int32) (R : Nat → Nat → Int32) : Prop := FM k IM RM I R ∧ I 5 = nI p ∧ I 7 = 0 ∧ I 8 = nI o ∧ R 1 (185 + k) = nI S.length ∧ ∀ j, j < S.length → R 1 (190 + 140 * k + j) = S.getD j 0
def WM (k : Nat) (IM : Nat → Int32) (RM : Nat → Nat → Int32) (p : Nat) (I : Nat → Int32) (R : Nat → Nat → Int32) : Prop := FM k IM RM I R ∧ I 5 = nI p ∧ I 7 = 1
theorem y_ud {f : Nat → Int32} {j i : Nat} {x : Int32} (h : i ≠ j) : upd f j x i = f i := by simp only [upd, va_up, if_neg h]
theorem y_gd {α : Type} {xs ys : List α} {j : Nat} {d : α} (h : j < xs.length) : (xs ++ ys).getD j d = xs.getD j d := by simp only [List.getD_eq_getElem?_getD, List.getElem?_append_left h]
theorem FM_u {k : Nat} {IM : Nat → Int32} {RM : Nat → Nat → Int32} {I I' : Nat → Int32} {R : Nat → Nat → Int32} (h : FM k IM RM I R) (h' : ∀ i, i ≠ 5 → i ≠ 7 → i ≠ 8 → I' i = I i) : FM k IM RM I' R := ⟨fun i a b c => (h' i a b c).trans (h.1 i a b c), h.2⟩
section yy
variable {T : Nat → Nat} {t k : Nat} {IC : Nat → Int32} {RC : Nat → Nat → Int32} {IM : Nat → Int32} {RM : Nat → Nat → Int32}
theorem y_sat (H : An T t k RC IM RM) {n p : Nat} {C : List Nat} {I : Nat → Int32} {R : Nat → Nat → Int32} (hp : p ≤ 200) (hR : R 3 = RC 3) : p_Ni_signAt n t (nI p) I R = some (sg T t p) := by
  unfold p_Ni_signAt sg
  obtain ⟨h1, h2, h3, h4, h5⟩ := H
  rw [if_neg (nI_pos (by omega))]
  by_cases h : p < t
  · rw [if_pos (nI_lt h (by omega)), if_pos (nI_in h (by omega)), nI_clamp (by omega), hR, (h3 p h).2.1, if_pos h]; rfl
  · rw [if_neg (nI_nlt (by omega) (by omega)), if_neg h]; rfl
theorem y_here (H : An T t k RC IM RM) {n p : Nat} {I : Nat → Int32} {R : Nat → Nat → Int32} (hp : p ≤ t) (hF : FM k IM RM I R) (h5 : I 5 = nI p) : p_Md_here n I R = some (sg T t p) := by
  unfold p_Md_here sg
  obtain ⟨h1, h2, h3, h4, h6⟩ := H
  rw [h5, hF.1 6 (by decide) (by decide) (by decide), h6]
  by_cases h : p < t
  · have e : (70 : Int32) + nI p = nI (70 + p) := nI_add 70 p
    rw [if_neg (nI_ge h (by omega)), e, if_pos (nI_in (by omega) (by omega)), nI_clamp (by omega), hF.2.2 (70 + p) (by omega) (by omega), (h3 p h).2.2, if_pos h]; rfl
  · rw [if_pos (nI_le (by omega) (by omega)), if_neg h]; rfl
theorem y_sgl (H : An T t k RC IM RM) {p : Nat} {v : Int32} (h : v = sg T t p) (hv : v ≠ -1) : p < t := by
  apply Classical.byContradiction
  intro hc
  unfold sg at h
  rw [if_neg hc] at h
  exact hv h
theorem y_take (H : An T t k RC IM RM) {n p : Nat} {C : List Nat} {I : Nat → Int32} {R : Nat → Nat → Int32} {v : Int32} (hv : v ≠ -1) (hp : p ≤ t) (h : JC IC RC p C I R) : (v = sg T t p ∧ p < t ∧ p_Ni_take n t v I R = some (1, upd I 4 (nI (p + 1)), R) ∧ JC IC RC (p + 1) C (upd I 4 (nI (p + 1))) R) ∨ (v ≠ sg T t p ∧ p_Ni_take n t v I R = some (0, I, R)) := by
  obtain ⟨j1, j2, j3, j4, j5⟩ := h
  have e : p_Ni_signAt n t (I 4) I R = some (sg T t p) := by rw [j3]; exact y_sat H (C := C) (by have := H.1; omega) (j2 3 (by decide))
  unfold p_Ni_take
  rw [e, Option.bind_some]
  by_cases q : sg T t p = v
  · left
    rw [if_pos q, j3, nI_1]
    exact ⟨q.symm, y_sgl H q.symm hv, rfl, fun i a b => by rw [y_ud a]; exact j1 i a b, j2, pk_us, by rw [y_ud (by decide)]; exact j4, j5⟩
  · right
    rw [if_neg q]
    exact ⟨fun e => q e.symm, rfl⟩
theorem y_must (H : An T t k RC IM RM) {n p : Nat} {S : List Int32} {o : Nat} {I : Nat → Int32} {R : Nat → Nat → Int32} {v : Int32} (hp : p ≤ t) (h : JM k IM RM p S o I R) : (v = sg T t p ∧ ∃ I', p_Md_must n v I R = some (I', R) ∧ JM k IM RM (p + 1) S o I' R) ∨ (v ≠ sg T t p ∧ ∃ I', p_Md_must n v I R = some (I', R) ∧ WM k IM RM p I' R) := by
  obtain ⟨j1, j2, j3, j4, j5⟩ := h
  unfold p_Md_must
  rw [if_pos j3, y_here H hp j1 j2, Option.bind_some]
  by_cases q : sg T t p = v
  · left
    refine ⟨q.symm, (upd (upd I 7 0) 5 (((upd I 7 0) 5) + 1)), ?_, FM_u j1 (fun i a b c => by rw [y_ud a, y_ud b]), ?_, ?_, ?_, j5⟩
    · rw [if_pos q]; rfl
    · rw [pk_us, y_ud (by decide), j2, nI_1]
    · rw [y_ud (by decide), pk_us]
    · rw [y_ud (by decide), y_ud (by decide), j4]
  · right
    refine ⟨fun e => q e.symm, (upd (upd I 7 1) 5 (((upd I 7 1) 5) + 0)), ?_, FM_u j1 (fun i a b c => by rw [y_ud a, y_ud b]), ?_, ?_⟩
    · rw [if_neg q]; rfl
    · rw [pk_us, y_ud (by decide), j2]; exact nI_add p 0
    · rw [y_ud (by decide), pk_us]
theorem y_mustW {n p : Nat} {I : Nat → Int32} {R : Nat → Nat → Int32} {v : Int32} (h : WM k IM RM p I R) : ∃ I', p_Md_must n v I R = some (I', R) ∧ WM k IM RM p I' R := by
  obtain ⟨j1, j2, j3⟩ := h
  refine ⟨(upd (upd I 7 1) 5 (((upd I 7 1) 5) + 0)), ?_, FM_u j1 (fun i a b c => by rw [y_ud a, y_ud b]), ?_, ?_⟩
  · unfold p_Md_must
    rw [j3, if_neg (show ¬ (1 : Int32) = 0 by decide)]; rfl
  · rw [pk_us, y_ud (by decide), j2]; exact nI_add p 0
  · rw [y_ud (by decide), pk_us]
theorem y_emitW {n p : Nat} {I : Nat → Int32} {R : Nat → Nat → Int32} {v : Int32} (h : WM k IM RM p I R) : p_Md_emits n v I R = some (I, R) := by
  unfold p_Md_emits
  rw [h.2.2, if_neg (show ¬ (1 : Int32) = 0 by decide)]
theorem y_emit (H : An T t k RC IM RM) {n p : Nat} {S : List Int32} {o : Nat} {I : Nat → Int32} {R : Nat → Nat → Int32} {v : Int32} (hS : S.length < 140) (h : JM k IM RM p S o I R) : ∃ R', p_Md_emits n v I R = some (I, R') ∧ JM k IM RM p (S ++ [v]) o I R' := by
  obtain ⟨j1, j2, j3, j4, j5, j6⟩ := h
  obtain ⟨h1, h2, h3, h4, h6⟩ := H
  have e4 : I 4 = nI k := by rw [j1.1 4 (by decide) (by decide) (by decide), h4]
  have e5 : (185 : Int32) + nI k = nI (185 + k) := nI_add 185 k
  have e6 : (190 : Int32) + 140 * nI k + nI S.length = nI (190 + 140 * k + S.length) := by
    rw [show (140 : Int32) * nI k = nI (140 * k) from (Int32.ofNat_mul 140 k).symm, show (190 : Int32) + nI (140 * k) = nI (190 + 140 * k) from nI_add 190 (140 * k), nI_add]
  refine ⟨upR (upR R 1 (190 + 140 * k + S.length) v) 1 (185 + k) (nI (S.length + 1)), ?_, ⟨j1.1, fun r hr => by rw [q_upN hr, q_upN hr]; exact j1.2.1 r hr, fun j a b => ?_⟩, j2, j3, j4, ?_, fun j hj => ?_⟩
  · unfold p_Md_emits
    rw [if_pos j3, e4, e5, if_pos (nI_in (by omega) (by omega))]
    simp only [nI_clamp (show 185 + k < 2 ^ 31 by omega), j5, e6]
    rw [if_pos (nI_in (by omega) (by omega)), if_pos (nI_in (by omega) (by omega)), if_pos (nI_in (by omega) (by omega)), nI_clamp (by omega), q_upE (by omega), j5, nI_1]
  · rw [q_upE (by omega), q_upE (by omega)]; exact j1.2.2 j a b
  · rw [q_upV, List.length_append]; rfl
  · rw [List.length_append, List.length_singleton] at hj
    by_cases q : j = S.length
    · subst q
      rw [q_upE (by omega), q_upV]; simp
    · rw [q_upE (by omega), q_upE (by omega), j6 j (by omega), y_gd (by omega)]
theorem y_add {n p c : Nat} {C : List Nat} {I : Nat → Int32} {R : Nat → Nat → Int32} (ht : t ≤ 100) (hC : C.length < t) (h : JC IC RC p C I R) : ∃ I' R', p_Ni_addCode n t (kC c) I R = some (I', R') ∧ JC IC RC p (C ++ [c]) I' R' := by
  obtain ⟨j1, j2, j3, j4, j5⟩ := h
  refine ⟨upd I 6 (nI (C.length + 1)), upR R 5 C.length (kC c), ?_, fun i a b => by rw [y_ud b]; exact j1 i a b, fun r hr => by rw [q_upN hr]; exact j2 r hr, by rw [y_ud (by decide)]; exact j3, by rw [pk_us, List.length_append]; rfl, fun j hj => ?_⟩
  · unfold p_Ni_addCode
    rw [j4, if_pos (nI_lt hC (by omega)), if_pos (nI_in hC (by omega)), nI_clamp (by omega), nI_1]
  · rw [List.length_append, List.length_singleton] at hj
    by_cases q : j = C.length
    · subst q
      rw [q_upV]; simp
    · rw [q_upE (by omega), j5 j (by omega), y_gd (by omega)]
end yy
