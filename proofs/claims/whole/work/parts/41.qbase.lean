/-! ===== the pure side: loops, bits, small methods ===== -/
theorem q_lpr {α β : Type} (L : Nat → Nat → α → Option β) (m : Nat) (Inv : Nat → α → Prop) (Q : β → Prop)
    (hend : ∀ k a, Inv m a → ∃ z, L (k + 1) m a = some z ∧ Q z)
    (hstep : ∀ k i a, i < m → Inv i a → (∃ a', L (k + 1) i a = L k (i + 1) a' ∧ Inv (i + 1) a') ∨ (∃ z, L (k + 1) i a = some z ∧ Q z))
    (i : Nat) (a : α) (k : Nat) (hi : i ≤ m) (hk : m - i < k) (h : Inv i a) : ∃ z, L k i a = some z ∧ Q z := by
  induction hc : m - i generalizing i a k with
  | zero =>
    have : i = m := by omega
    subst this
    cases k with
    | zero => omega
    | succ k => exact hend k a h
  | succ c ih =>
    cases k with
    | zero => omega
    | succ k =>
      rcases hstep k i a (by omega) h with ⟨a', e, h'⟩ | ⟨z, e, hz⟩
      · rw [e]
        exact ih (i + 1) a' k (by omega) (by omega) h' (by omega)
      · exact ⟨z, e, hz⟩
/-- a loop without an early end -/
theorem q_lp {α β : Type} (L : Nat → Nat → α → Option β) (m : Nat) (Inv : Nat → α → Prop) (Q : β → Prop)
    (hend : ∀ k a, Inv m a → ∃ z, L (k + 1) m a = some z ∧ Q z)
    (hstep : ∀ k i a, i < m → Inv i a → ∃ a', L (k + 1) i a = L k (i + 1) a' ∧ Inv (i + 1) a')
    (i : Nat) (a : α) (k : Nat) (hi : i ≤ m) (hk : m - i < k) (h : Inv i a) : ∃ z, L k i a = some z ∧ Q z :=
  q_lpr L m Inv Q hend (fun k i a h1 h2 => Or.inl (hstep k i a h1 h2)) i a k hi hk h
/-- a loop whose value is a fold over the places -/
theorem q_lpf {α β : Type} (L : Nat → Nat → α → Option β) (m : Nat) (v : Nat → α) (z : β)
    (hend : ∀ k, L (k + 1) m (v m) = some z) (hstep : ∀ k i, i < m → L (k + 1) i (v i) = L k (i + 1) (v (i + 1)))
    (i : Nat) (k : Nat) (hi : i ≤ m) (hk : m - i < k) : L k i (v i) = some z := by
  obtain ⟨z', h1, h2⟩ := q_lp L m (fun i a => a = v i) (fun y => y = z) (fun k a h => ⟨z, by rw [h]; exact hend k, rfl⟩) (fun k i a h1 h2 => ⟨v (i + 1), by rw [h2]; exact hstep k i h1, rfl⟩) i (v i) k hi hk rfl
  rw [h1, h2]
def bt (a i : Nat) : Bool := a.testBit i
def b2i (b : Bool) : Int32 := if b = true then 1 else 0
def pop (a : Nat) : Nat := a % 2 + a / 2 % 2 + a / 4 % 2 + a / 8 % 2 + a / 16 % 2 + a / 32 % 2
theorem b2i_z (b : Bool) : isZ (b2i b) := by cases b <;> decide
theorem b2i_0 (b : Bool) : b2i b = 0 ↔ b = false := by cases b <;> decide
theorem b2i_1 (b : Bool) : b2i b = 1 ↔ b = true := by cases b <;> decide
theorem q_bit1 : ∀ a, a < 64 → ∀ i, i < 7 → (((nI a >>> (nI i &&& 31)) &&& 1) = 1 ↔ bt a i = true) := by decide +kernel
theorem q_bit0 : ∀ a, a < 64 → ∀ i, i < 7 → (((nI a >>> (nI i &&& 31)) &&& 1) = 0 ↔ bt a i = false) := by decide +kernel
theorem q_bitv : ∀ a, a < 64 → ∀ i, i < 7 → ((nI a >>> (nI i &&& 31)) &&& 1) = b2i (bt a i) := by decide +kernel
theorem q_one : ∀ i, i < 7 → 1 <<< (nI i &&& 31) = nI (2 ^ i) := by decide +kernel
theorem q_all : ∀ m, m < 7 → (1 <<< (nI m &&& 31)) - 1 = nI (2 ^ m - 1) := by decide +kernel
theorem q_xor : ∀ a, a < 64 → ∀ b, b < 64 → nI a ^^^ nI b = nI (a ^^^ b) := by decide +kernel
theorem q_and : ∀ a, a < 64 → ∀ b, b < 64 → nI a &&& nI b = nI (a &&& b) := by decide +kernel
theorem q_or : ∀ a, a < 64 → ∀ b, b < 64 → nI a ||| nI b = nI (a ||| b) := by decide +kernel
/-- a without b -/
def dif (a b : Nat) : Nat := a &&& (b ^^^ 63)
theorem q_dif : ∀ a, a < 64 → ∀ b, b < 64 → nI a &&& (nI b ^^^ (-1)) = nI (dif a b) := by decide +kernel
theorem q_pop_c : ∀ a, a < 64 → p_Integer_bitCount 0 (nI a) = some (nI (pop a)) := by decide +kernel
theorem q_popC (n a : Nat) (h : a < 64) : p_Integer_bitCount n (nI a) = some (nI (pop a)) := q_pop_c a h
theorem q_pop_m : ∀ a, a < 64 → (((((((0 : Int32) + ((nI a >>> ((0 : Int32) &&& 31)) &&& 1)) + ((nI a >>> (((0 : Int32) + 1) &&& 31)) &&& 1)) + ((nI a >>> (((0 : Int32) + 1 + 1) &&& 31)) &&& 1)) + ((nI a >>> (((0 : Int32) + 1 + 1 + 1) &&& 31)) &&& 1)) + ((nI a >>> (((0 : Int32) + 1 + 1 + 1 + 1) &&& 31)) &&& 1)) + ((nI a >>> (((0 : Int32) + 1 + 1 + 1 + 1 + 1) &&& 31)) &&& 1)) = nI (pop a) := by decide +kernel
theorem q_popM (n a : Nat) (hn : 7 ≤ n) (h : a < 64) : p_Md_count1 n (nI a) = some (nI (pop a)) := by
  obtain ⟨k, rfl⟩ : ∃ k, n = k + 7 := ⟨n - 7, by omega⟩
  rw [← q_pop_m a h]
  rfl
theorem q_pop_le : ∀ a, a < 64 → pop a ≤ 6 := by decide +kernel
theorem q_in1 {n : Nat} {x lo hi : Int32} (h1 : lo ≤ x) (h2 : x ≤ hi) : p_Md_in n x lo hi = some 1 := by
  unfold p_Md_in
  rw [if_neg (Int32.not_lt.mpr h1), if_neg (Int32.not_lt.mpr h2)]
  rfl
theorem q_in0 {n : Nat} {x lo hi : Int32} (h : ¬ (lo ≤ x ∧ x ≤ hi)) : p_Md_in n x lo hi = some 0 := by
  unfold p_Md_in
  by_cases h1 : x < lo
  · rw [if_pos h1]; rfl
  · by_cases h2 : hi < x
    · rw [if_neg h1, if_pos h2]; rfl
    · exact absurd ⟨Int32.not_lt.mp h1, Int32.not_lt.mp h2⟩ h
theorem q_inD (n : Nat) (x lo hi : Int32) : (p_Md_in n x lo hi = some 1 ∧ lo ≤ x ∧ x ≤ hi) ∨ (p_Md_in n x lo hi = some 0 ∧ ¬ (lo ≤ x ∧ x ≤ hi)) := by
  by_cases h : lo ≤ x ∧ x ≤ hi
  · exact Or.inl ⟨q_in1 h.1 h.2, h⟩
  · exact Or.inr ⟨q_in0 h, h⟩
/-- a number from 0 to c -/
theorem q_rng {x : Int32} {c : Nat} (hc : c < 2 ^ 31) (h1 : 0 ≤ x) (h2 : x ≤ nI c) : ∃ j, j ≤ c ∧ x = nI j :=
  nI_of2 (nI_toInt hc) (Int32.not_lt.mpr h1) h2
def isS (m : Nat) (v : Int32) : Prop := ∃ a, a < 2 ^ m ∧ v = nI a
theorem q_p2 : ∀ m, m < 7 → 2 ^ m ≤ 64 ∧ 1 ≤ 2 ^ m := by decide
theorem isS_lt {m a : Nat} (hm : m ≤ 6) (h : a < 2 ^ m) : a < 64 := Nat.lt_of_lt_of_le h (q_p2 m (by omega)).1
theorem isS_iff {m : Nat} {v : Int32} (hm : m ≤ 6) : (0 ≤ v ∧ v ≤ nI (2 ^ m - 1)) ↔ isS m v := by
  have h64 := q_p2 m (by omega)
  constructor
  · rintro ⟨h1, h2⟩
    obtain ⟨j, hj, rfl⟩ := q_rng (by omega) h1 h2
    exact ⟨j, by omega, rfl⟩
  · rintro ⟨a, ha, rfl⟩
    exact ⟨nI_pos' (by omega), nI_le (by omega) (by omega)⟩
theorem q_split (v M : Int32) : v = (v &&& M) ||| (v &&& (M ^^^ (-1))) := by
  apply Int32.toBitVec.inj
  simp only [Int32.toBitVec_or, Int32.toBitVec_and, Int32.toBitVec_xor]
  have h1 : (-1 : Int32).toBitVec = BitVec.allOnes 32 := by decide
  rw [h1]
  apply BitVec.eq_of_getLsbD_eq
  intro i hi
  simp only [BitVec.getLsbD_or, BitVec.getLsbD_and, BitVec.getLsbD_xor, BitVec.getLsbD_allOnes, hi, decide_true]
  cases v.toBitVec.getLsbD i <;> cases M.toBitVec.getLsbD i <;> rfl
theorem q_isc : ∀ m, m < 7 → ∀ a, a < 64 → a < 2 ^ m → nI a &&& (nI (2 ^ m - 1) ^^^ (-1)) = 0 := by decide +kernel
theorem q_mk : ∀ m, m < 7 → (nI (2 ^ m - 1)).toBitVec.toNat = 2 ^ m - 1 := by decide +kernel
theorem isS_cls {m : Nat} {v : Int32} (hm : m ≤ 6) : v &&& (nI (2 ^ m - 1) ^^^ (-1)) = 0 ↔ isS m v := by
  constructor
  · intro h
    have h1 := q_split v (nI (2 ^ m - 1))
    rw [h] at h1
    obtain ⟨j, hj, e⟩ := pk_andE v m (q_mk m (by omega))
    rw [e] at h1
    have h2 : nI j ||| 0 = nI j := q_or j (isS_lt hm hj) 0 (by omega) |>.trans (by rw [Nat.or_zero])
    rw [h2] at h1
    exact ⟨j, hj, h1⟩
  · rintro ⟨a, ha, rfl⟩
    exact q_isc m (by omega) a (isS_lt hm ha) ha
theorem isS_1 {m : Nat} {v : Int32} {n : Nat} {I : Nat → Int32} {R : Nat → Nat → Int32} (hm : m ≤ 6) (hs : R 1 0 = nI m) (h : isS m v) : p_Md_isSet n v I R = some 1 := by
  unfold p_Md_isSet p_Md_all
  rw [hs, q_all m (by omega)]
  show (p_Md_in n v 0 (nI (2 ^ m - 1))).bind _ = _
  obtain ⟨h1, h2⟩ := (isS_iff hm).mpr h
  rw [q_in1 h1 h2]
  rfl
theorem isS_0 {m : Nat} {v : Int32} {n : Nat} {I : Nat → Int32} {R : Nat → Nat → Int32} (hm : m ≤ 6) (hs : R 1 0 = nI m) (h : ¬ isS m v) : p_Md_isSet n v I R = some 0 := by
  unfold p_Md_isSet p_Md_all
  rw [hs, q_all m (by omega)]
  show (p_Md_in n v 0 (nI (2 ^ m - 1))).bind _ = _
  rw [q_in0 (fun hh => h ((isS_iff hm).mp hh))]
  rfl
theorem q_Mall {m : Nat} {n : Nat} {I : Nat → Int32} {R : Nat → Nat → Int32} (hm : m ≤ 6) (hs : R 1 0 = nI m) : p_Md_all n I R = some (nI (2 ^ m - 1)) := by
  unfold p_Md_all
  rw [hs, q_all m (by omega)]
theorem isS_c1 {m : Nat} {v : Int32} {n : Nat} {E : PE} {F G : Nat → Nat → Int32} {P : Nat → Nat → Option Nat} {N : Nat → Nat} (hm : m ≤ 6) (hs : F 1 5 = nI m) (h : isS m v) : p_St_isSet n E F G P N v = some 1 := by
  unfold p_St_isSet p_St_everybody
  rw [hs, q_all m (by omega)]
  show ((if (v &&& (nI (2 ^ m - 1) ^^^ (-1))) = 0 then some 1 else some 0 : Option Int32)).bind _ = _
  rw [if_pos ((isS_cls hm).mpr h)]
  rfl
theorem isS_c0 {m : Nat} {v : Int32} {n : Nat} {E : PE} {F G : Nat → Nat → Int32} {P : Nat → Nat → Option Nat} {N : Nat → Nat} (hm : m ≤ 6) (hs : F 1 5 = nI m) (h : ¬ isS m v) : p_St_isSet n E F G P N v = some 0 := by
  unfold p_St_isSet p_St_everybody
  rw [hs, q_all m (by omega)]
  show ((if (v &&& (nI (2 ^ m - 1) ^^^ (-1))) = 0 then some 1 else some 0 : Option Int32)).bind _ = _
  rw [if_neg (fun hh => h ((isS_cls hm).mp hh))]
  rfl
theorem q_Ceb {m : Nat} {n : Nat} {E : PE} {F G : Nat → Nat → Int32} {P : Nat → Nat → Option Nat} {N : Nat → Nat} (hm : m ≤ 6) (hs : F 1 5 = nI m) : p_St_everybody n E F G P N = some (nI (2 ^ m - 1)) := by
  unfold p_St_everybody
  rw [hs, q_all m (by omega)]
/-- a person's number -/
theorem q_per {m : Nat} {v : Int32} {n : Nat} {I : Nat → Int32} {R : Nat → Nat → Int32} (hm : m ≤ 6) (hs : R 1 0 = nI m) : (∃ p, p < m ∧ v = nI p ∧ p_Md_isPerson n v I R = some 1) ∨ ((v < 0 ∨ nI m ≤ v) ∧ p_Md_isPerson n v I R = some 0) := by
  unfold p_Md_isPerson
  rw [hs]
  rcases pk_ix v (n := m) (by omega) with h | h | ⟨p, hp, rfl⟩
  · refine Or.inr ⟨Or.inl h, ?_⟩
    rw [q_in0 (fun hh => absurd h (Int32.not_lt.mpr hh.1))]
    rfl
  · refine Or.inr ⟨Or.inr h, ?_⟩
    rw [q_in0 (fun hh => ?_)]
    · rfl
    · have h3 := Int32.le_trans h hh.2
      rcases m with _ | m
      · exact absurd h3 (by decide)
      · rw [nI_pred] at h3
        exact nI_ge (a := m) (b := m + 1) (by omega) (by omega) h3
  · refine Or.inl ⟨p, hp, rfl, ?_⟩
    obtain ⟨m, rfl⟩ : ∃ k, m = k + 1 := ⟨m - 1, by omega⟩
    rw [nI_pred, q_in1 (nI_pos' (by omega)) (nI_le (by omega) (by omega))]
    rfl
theorem q_goes {m p a n : Nat} {I : Nat → Int32} {R : Nat → Nat → Int32} (hm : m ≤ 6) (hs : R 1 0 = nI m) (hp : p < m) (ha : a < 64) : p_Md_goes n (nI p) (nI a) I R = some (b2i (bt a p)) := by
  unfold p_Md_goes
  rcases q_per (v := nI p) (n := n) (I := I) hm hs with ⟨j, hj, e, h⟩ | ⟨h, -⟩
  · rw [h]
    show ((if (1 : Int32) = 0 then some 0 else (if ((nI a >>> (nI p &&& 31)) &&& 1) = 1 then some 1 else some 0) : Option Int32)).bind _ = _
    rw [if_neg (by decide)]
    by_cases hb : bt a p = true
    · rw [if_pos ((q_bit1 a ha p (by omega)).mpr hb), hb]; rfl
    · rw [if_neg (fun hh => hb ((q_bit1 a ha p (by omega)).mp hh)), Bool.eq_false_iff.mpr hb]; rfl
  · rcases h with h | h
    · exact absurd h (nI_pos (by omega))
    · exact absurd h (nI_ge hp (by omega))
