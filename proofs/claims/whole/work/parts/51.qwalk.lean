/-! ===== walks ===== -/
def wk (e : Nat → Nat → Nat → Prop) : Nat → Nat → Nat → Nat → Prop
  | 0, p, q, c => p = q ∧ c = 0
  | i + 1, p, q, c => ∃ x d c', e p x d ∧ wk e i x q c' ∧ c = d + c'
theorem wk_snoc {e : Nat → Nat → Nat → Prop} : ∀ (i p q x c d : Nat), wk e i p q c → e q x d → wk e (i + 1) p x (c + d)
  | 0, p, q, x, c, d, h, he => by
    obtain ⟨rfl, rfl⟩ := h
    exact ⟨x, d, 0, he, ⟨rfl, rfl⟩, by omega⟩
  | i + 1, p, q, x, c, d, h, he => by
    obtain ⟨y, d', c', h1, h2, h3⟩ := h
    exact ⟨y, d', c' + d, h1, wk_snoc i y q x c' d h2 he, by omega⟩
theorem wk_rev {e f : Nat → Nat → Nat → Prop} (hf : ∀ p q d, e p q d → f q p d) : ∀ (i p q c : Nat), wk e i p q c → wk f i q p c
  | 0, p, q, c, h => ⟨h.1.symm, h.2⟩
  | i + 1, p, q, c, h => by
    obtain ⟨y, d', c', h1, h2, h3⟩ := h
    have := wk_snoc i q y p c' d' (wk_rev hf i y q c' h2) (hf _ _ _ h1)
    rw [h3, Nat.add_comm d' c']
    exact this
theorem wk_mono {e f : Nat → Nat → Nat → Prop} (hf : ∀ p q d, e p q d → f p q d) : ∀ (i p q c : Nat), wk e i p q c → wk f i p q c
  | 0, p, q, c, h => h
  | i + 1, p, q, c, h => by
    obtain ⟨y, d', c', h1, h2, h3⟩ := h
    exact ⟨y, d', c', hf _ _ _ h1, wk_mono hf i y q c' h2, h3⟩
/-- all of g are with the lantern -/
def hr (g a w : Nat) : Bool := if w = 1 then decide (g &&& a = g) else decide (g &&& a = 0)
/-- goings, from place to place (turned: the other way round) -/
def CE (m st : Nat) (cn : Nat → Nat → Bool) (ct : Nat → Nat → Nat) (tn p q d : Nat) : Prop := p < 2 * 2 ^ m ∧ ∃ g, 1 ≤ g ∧ g < 2 ^ m ∧ hr g (p / 2) (p % 2) = true ∧ g &&& st = 0 ∧ cn g ((p + tn) % 2) = true ∧ q = 2 * ((p / 2) ^^^ g) + (1 - p % 2) ∧ d = ct g ((p + tn) % 2)
theorem q_sub {g x : Nat} : (g &&& x = g) ↔ ∀ i, g.testBit i = true → x.testBit i = true := by
  constructor
  · intro h i hi
    have h2 : (g &&& x).testBit i = true := by rw [h]; exact hi
    rw [Nat.testBit_and, Bool.and_eq_true] at h2
    exact h2.2
  · intro h
    apply Nat.eq_of_testBit_eq
    intro i
    rw [Nat.testBit_and]
    cases hg : g.testBit i
    · rfl
    · rw [h i hg]; rfl
theorem q_dj {g x : Nat} : (g &&& x = 0) ↔ ∀ i, g.testBit i = true → x.testBit i = false := by
  constructor
  · intro h i hi
    have h2 : (g &&& x).testBit i = false := by rw [h, Nat.zero_testBit]
    rw [Nat.testBit_and, hi, Bool.true_and] at h2
    exact h2
  · intro h
    apply Nat.eq_of_testBit_eq
    intro i
    rw [Nat.testBit_and, Nat.zero_testBit]
    cases hg : g.testBit i
    · rfl
    · rw [h i hg]; rfl
theorem hr_turn {g a w : Nat} (hw : w ≤ 1) (h : hr g a w = true) : hr g (a ^^^ g) (1 - w) = true := by
  unfold hr at h ⊢
  rcases (by omega : w = 0 ∨ w = 1) with rfl | rfl
  · rw [if_neg (by decide), decide_eq_true_eq, q_dj] at h
    rw [if_pos rfl, decide_eq_true_eq, q_sub]
    intro i hi
    rw [Nat.testBit_xor, hi, h i hi]; rfl
  · rw [if_pos rfl, decide_eq_true_eq, q_sub] at h
    rw [if_neg (by decide), decide_eq_true_eq, q_dj]
    intro i hi
    rw [Nat.testBit_xor, hi, h i hi]; rfl
theorem CE_q {m st tn p q d : Nat} {cn : Nat → Nat → Bool} {ct : Nat → Nat → Nat} (h : CE m st cn ct tn p q d) : q < 2 * 2 ^ m := by
  obtain ⟨hp, g, g1, g2, -, -, -, rfl, -⟩ := h
  have := Nat.xor_lt_two_pow (show p / 2 < 2 ^ m by omega) g2
  omega
theorem CE_rev {m st tn p q d : Nat} {cn : Nat → Nat → Bool} {ct : Nat → Nat → Nat} (h : CE m st cn ct tn p q d) : CE m st cn ct (1 - tn % 2) q p d := by
  have hq := CE_q h
  obtain ⟨hp, g, g1, g2, g3, g4, g5, g6, g7⟩ := h
  have e1 : q / 2 = (p / 2) ^^^ g := by omega
  have e2 : q % 2 = 1 - p % 2 := by omega
  have e3 : (q + (1 - tn % 2)) % 2 = (p + tn) % 2 := by omega
  refine ⟨hq, g, g1, g2, ?_, g4, by rw [e3]; exact g5, ?_, by rw [e3]; exact g7⟩
  · rw [e1, e2]
    exact hr_turn (by omega) g3
  · rw [e1, e2, Nat.xor_assoc, Nat.xor_self, Nat.xor_zero]
    omega
/-- sums -/
def sm (f : Nat → Nat) : Nat → Nat
  | 0 => 0
  | k + 1 => sm f k + f k
theorem sm_le {f g : Nat → Nat} : ∀ k, (∀ j, j < k → f j ≤ g j) → sm f k ≤ sm g k
  | 0, _ => Nat.le_refl _
  | k + 1, h => by
    have h1 := sm_le k (fun j hj => h j (by omega))
    have h2 := h k (by omega)
    simp only [sm]; omega
theorem sm_lt {f g : Nat → Nat} : ∀ k, (∀ j, j < k → f j ≤ g j) → (∃ j, j < k ∧ f j < g j) → sm f k < sm g k
  | 0, _, h => by obtain ⟨j, hj, _⟩ := h; omega
  | k + 1, h, h3 => by
    obtain ⟨j, hj, h4⟩ := h3
    have h1 := sm_le k (fun j hj => h j (by omega))
    have h2 := h k (by omega)
    simp only [sm]
    by_cases e : j = k
    · subst e; omega
    · have := sm_lt k (fun j hj => h j (by omega)) ⟨j, by omega, h4⟩
      omega
theorem sm_b {f : Nat → Nat} {B : Nat} : ∀ k, (∀ j, j < k → f j ≤ B) → sm f k ≤ k * B
  | 0, _ => by simp [sm]
  | k + 1, h => by
    have h1 := sm_b k (fun j hj => h j (by omega))
    have h2 := h k (by omega)
    simp only [sm, Nat.succ_mul]; omega
theorem sm_full {f : Nat → Nat} : ∀ k, (∀ j, j < k → f j ≤ 1) → sm f k = k → ∀ j, j < k → f j = 1
  | 0, _, _, j, hj => by omega
  | k + 1, h, h2, j, hj => by
    have h3 := sm_b (B := 1) k (fun j hj => h j (by omega))
    have h4 := h k (by omega)
    simp only [sm] at h2
    by_cases e : j = k
    · subst e; omega
    · exact sm_full k (fun j hj => h j (by omega)) (by omega) j (by omega)
theorem sm_up {f g : Nat → Nat} {i : Nat} : ∀ k, i < k → (∀ j, j ≠ i → g j = f j) → g i = f i + 1 → sm g k = sm f k + 1
  | 0, h, _, _ => by omega
  | k + 1, h, h1, h2 => by
    simp only [sm]
    by_cases e : i = k
    · subst e
      have : ∀ k, k ≤ i → sm g k = sm f k := by
        intro k
        induction k with
        | zero => intro _; rfl
        | succ k ih => intro hk; simp only [sm]; rw [ih (by omega), h1 k (by omega)]
      rw [this i (Nat.le_refl _), h2]; omega
    · rw [sm_up k (by omega) h1 h2, h1 k (fun q => e q.symm)]; omega
