/-! ===== a night's clauses, and what they say ===== -/
def tsv (y : Int32) (s x : Nat) : Bool := if s = 0 then decide (y < nI x) else if s = 1 then decide (y = nI x) else decide (nI x < y)
/-- a piece of code: 0 not, 1 and, 2 or, t + 3 the test t -/
def kC (c : Nat) : Int32 := if c = 0 then (-1) else if c = 1 then (-2) else if c = 2 then (-3) else nI (c - 3)
def kM (c : Nat) : Int32 := if c = 0 then (-1) else if c = 1 then (-2) else if c = 2 then (-3) else nI ((c - 3) / 300 + 8 * ((c - 3) / 100 % 3) + 32 * ((c - 3) % 100))
def tfc (fc : Nat → Int32) (c : Nat) : Bool := tsv (fc ((c - 3) / 300)) ((c - 3) / 100 % 3) ((c - 3) % 100)
def ev1 (fc : Nat → Int32) (c : Nat) (st : List Bool) : List Bool :=
  if c = 0 then (!st.headD false) :: st.tail else if c = 1 then (st.tail.headD false && st.headD false) :: st.tail.tail else if c = 2 then (st.tail.headD false || st.headD false) :: st.tail.tail else tfc fc c :: st
def ev (fc : Nat → Int32) : List Nat → List Bool → List Bool
  | [], st => st
  | c :: cs, st => ev fc cs (ev1 fc c st)
/-- c may run at height h -/
def wf1 (c h : Nat) : Prop := (c = 0 ∧ 1 ≤ h) ∨ ((c = 1 ∨ c = 2) ∧ 2 ≤ h) ∨ (3 ≤ c ∧ c < 1803 ∧ h < 30)
def hg (c h : Nat) : Nat := if c = 0 then h else if c = 1 ∨ c = 2 then h - 1 else h + 1
def wf : List Nat → Nat → Nat → Prop
  | [], h, h' => h = h'
  | c :: cs, h, h' => wf1 c h ∧ wf cs (hg c h) h'
theorem wf_app : ∀ (xs ys : List Nat) (h h1 h2 : Nat), wf xs h h1 → wf ys h1 h2 → wf (xs ++ ys) h h2
  | [], ys, h, h1, h2, a, b => by cases a; exact b
  | c :: cs, ys, h, h1, h2, a, b => ⟨a.1, wf_app cs ys _ h1 h2 a.2 b⟩
theorem ev_app (fc : Nat → Int32) : ∀ (xs ys : List Nat) (st : List Bool), ev fc (xs ++ ys) st = ev fc ys (ev fc xs st)
  | [], ys, st => rfl
  | c :: cs, ys, st => ev_app fc cs ys _
theorem ev1_len {fc : Nat → Int32} {c : Nat} {st : List Bool} (h : wf1 c st.length) : (ev1 fc c st).length = hg c st.length := by
  unfold ev1 hg
  rcases h with ⟨rfl, h⟩ | ⟨rfl | rfl, h⟩ | ⟨h1, h2, h3⟩
  · simp only [if_true, List.length_cons, List.length_tail]; omega
  · simp; omega
  · simp; omega
  · rw [if_neg (by omega), if_neg (by omega), if_neg (by omega), if_neg (by omega), if_neg (by omega)]; rfl
theorem ev_len {fc : Nat → Int32} : ∀ (cs : List Nat) (st : List Bool) (h' : Nat), wf cs st.length h' → (ev fc cs st).length = h'
  | [], st, h', a => a
  | c :: cs, st, h', a => by
    refine ev_len cs (ev1 fc c st) h' ?_
    rw [ev1_len a.1]
    exact a.2
/-- the class' stack of bits -/
def Bst (v : Int32) (st : List Bool) : Prop := ∀ i, i < st.length → v.toBitVec.getLsbD i = st.getD i false
/-- the model's stack -/
def Tst (f : Nat → Int32) (st : List Bool) : Prop := ∀ i, i < st.length → f (st.length - 1 - i) = b2i (st.getD i false)
def hBody (fc : Nat → Int32) (c v4 : Int32) : Option Int32 := (if c = (-1) then some (v4 ^^^ 1) else (if c = (-2) then some ((v4 >>> (1 &&& 31)) &&& (v4 ||| (-2))) else (if c = (-3) then some ((v4 >>> (1 &&& 31)) ||| (v4 &&& 1)) else (if (c / 300) < 0 then some 0 else (if (c / 300) < (nI 6) then if ix (c / 300) 6 then some (fc (c / 300).toNatClampNeg) else none else some 0) : Option (Int32)).bind fun x9 => (if ((c / 100) - (c / 100) / 3 * 3) = 0 then (if (c - c / 100 * 100) ≤ x9 then some 0 else some 1) else (if ((c / 100) - (c / 100) / 3 * 3) = 1 then (if x9 = (c - c / 100 * 100) then some 1 else some 0) else (if x9 ≤ (c - c / 100 * 100) then some 0 else some 1)) : Option (Int32)).bind fun x12 => (if x12 = 0 then some 0 else some 1 : Option (Int32)).bind fun x14 => some ((v4 <<< (1 &&& 31)) ||| x14))))
theorem hBody_eq {n tl : Nat} {I : Nat → Int32} {R : Nat → Nat → Int32} {fc : Nat → Int32} {v1 : Int32} {k : Nat} {v4 v5 : Int32} : l_Ni_holds_23 n tl I R fc v1 (k + 1) v4 v5 = if ix v1 10 then (if ((R 9) v1.toNatClampNeg) ≤ v5 then some v4 else if ix v5 tl then (hBody fc ((R 5) v5.toNatClampNeg) v4).bind fun x7 => l_Ni_holds_23 n tl I R fc v1 k x7 (v5 + 1) else none) else none := rfl
theorem q_tsv (y : Int32) (s x : Nat) : (if nI s = 0 then (if nI x ≤ y then some 0 else some 1) else (if nI s = 1 then (if y = nI x then some 1 else some 0) else (if y ≤ nI x then some 0 else some 1)) : Option Int32) = some (b2i (if nI s = 0 then decide (y < nI x) else if nI s = 1 then decide (y = nI x) else decide (nI x < y))) := by
  by_cases h0 : nI s = 0
  · rw [if_pos h0, if_pos h0]
    by_cases h : nI x ≤ y
    · rw [if_pos h, decide_eq_false (Int32.not_lt.mpr h)]; rfl
    · rw [if_neg h, decide_eq_true (Int32.not_le.mp h)]; rfl
  · rw [if_neg h0, if_neg h0]
    by_cases h1 : nI s = 1
    · rw [if_pos h1, if_pos h1]
      by_cases h : y = nI x
      · rw [if_pos h, decide_eq_true h]; rfl
      · rw [if_neg h, decide_eq_false h]; rfl
    · rw [if_neg h1, if_neg h1]
      by_cases h : y ≤ nI x
      · rw [if_pos h, decide_eq_false (Int32.not_lt.mpr h)]; rfl
      · rw [if_neg h, decide_eq_true (Int32.not_le.mp h)]; rfl
theorem tsv_eq {y : Int32} {s x : Nat} (hs : s < 3) : tsv y s x = (if nI s = 0 then decide (y < nI x) else if nI s = 1 then decide (y = nI x) else decide (nI x < y)) := by
  unfold tsv
  rcases (by omega : s = 0 ∨ s = 1 ∨ s = 2) with rfl | rfl | rfl <;> rfl
theorem b2i_if (b : Bool) : (if b2i b = 0 then some 0 else some 1 : Option Int32) = some (b2i b) := by cases b <;> rfl
theorem hBody_t {fc : Nat → Int32} {c : Nat} {v4 : Int32} (h1 : 3 ≤ c) (h2 : c < 1803) : hBody fc (kC c) v4 = some ((v4 <<< (1 &&& 31)) ||| b2i (tfc fc c)) := by
  obtain ⟨t, rfl⟩ : ∃ t, c = t + 3 := ⟨c - 3, by omega⟩
  have e0 : kC (t + 3) = nI t := by unfold kC; rw [if_neg (by omega), if_neg (by omega), if_neg (by omega)]; rfl
  rw [e0]
  unfold hBody tfc
  have hp : ∀ d : Nat, 0 < d → ¬ nI t = -(nI d) → True := fun _ _ _ => trivial
  have n1 : ¬ nI t = (-1) := fun e => nI_pos (n := t) (by omega) (by rw [e]; decide)
  have n2 : ¬ nI t = (-2) := fun e => nI_pos (n := t) (by omega) (by rw [e]; decide)
  have n3 : ¬ nI t = (-3) := fun e => nI_pos (n := t) (by omega) (by rw [e]; decide)
  have e1 : nI t / (300 : Int32) = nI (t / 300) := pk_div (d := 300) (by omega) (by omega) (by omega)
  have e2 : nI t / (100 : Int32) = nI (t / 100) := pk_div (d := 100) (by omega) (by omega) (by omega)
  have e3 : nI (t / 100) - nI (t / 100) / (3 : Int32) * 3 = nI (t / 100 % 3) := pk_rem (d := 3) (by omega) (by omega) (by omega)
  have e4 : nI t - nI (t / 100) * (100 : Int32) = nI (t % 100) := by rw [← e2]; exact pk_rem (d := 100) (by omega) (by omega) (by omega)
  have e5 : (nI (t / 300)).toNatClampNeg = t / 300 := nI_clamp (by omega)
  rw [if_neg n1, if_neg n2, if_neg n3, e1, e2, e3, e4, if_neg (nI_pos (by omega)), if_pos (nI_lt (by omega) (by omega)), if_pos (nI_in (by omega) (by omega)), e5]
  show ((if nI (t / 100 % 3) = 0 then (if nI (t % 100) ≤ fc (t / 300) then some 0 else some 1) else (if nI (t / 100 % 3) = 1 then (if fc (t / 300) = nI (t % 100) then some 1 else some 0) else (if fc (t / 300) ≤ nI (t % 100) then some 0 else some 1)) : Option Int32)).bind _ = _
  rw [q_tsv, Nat.add_sub_cancel, tsv_eq (Nat.mod_lt _ (by omega))]
  show ((if b2i _ = 0 then some 0 else some 1 : Option Int32)).bind _ = _
  rw [b2i_if]
  rfl
theorem q_sh1 (v : Int32) (i : Nat) (h : i + 1 < 32) : (v >>> ((1 : Int32) &&& 31)).toBitVec.getLsbD i = v.toBitVec.getLsbD (i + 1) := by
  have e : ((1 : Int32) &&& 31).toBitVec.smod 32 = 1#32 := by decide
  rw [Int32.toBitVec_shiftRight, e]
  show (v.toBitVec.sshiftRight 1).getLsbD i = _
  rw [BitVec.getLsbD_sshiftRight]
  simp only [show (decide (32 ≤ i)) = false from decide_eq_false (by omega), Bool.not_false, Bool.true_and, Nat.add_comm 1 i, h, if_true]
theorem q_shl1 (v : Int32) (i : Nat) (h : i < 32) : (v <<< ((1 : Int32) &&& 31)).toBitVec.getLsbD i = (decide (1 ≤ i) && v.toBitVec.getLsbD (i - 1)) := by
  have e : ((1 : Int32) &&& 31).toBitVec.smod 32 = 1#32 := by decide
  rw [Int32.toBitVec_shiftLeft, e]
  show (v.toBitVec <<< 1).getLsbD i = _
  rw [BitVec.getLsbD_shiftLeft]
  by_cases h1 : 1 ≤ i
  · simp only [h, decide_true, Bool.true_and, h1, show ¬ i < 1 by omega, decide_false, Bool.not_false]
  · simp only [h, decide_true, Bool.true_and, h1, show i < 1 by omega, decide_false, Bool.not_true, Bool.false_and]
theorem q_b1 : ∀ i, i < 32 → (1 : Int32).toBitVec.getLsbD i = decide (i = 0) := by decide +kernel
theorem q_bm2 : ∀ i, i < 32 → (-2 : Int32).toBitVec.getLsbD i = decide (1 ≤ i) := by decide +kernel
theorem q_bb (b : Bool) : ∀ i, i < 32 → (b2i b).toBitVec.getLsbD i = (decide (i = 0) && b) := by cases b <;> decide +kernel
theorem hB_step {fc : Nat → Int32} {c : Nat} {v4 : Int32} {st : List Bool} (hw : wf1 c st.length) (hs : st.length ≤ 30) (hb : Bst v4 st) : ∃ v', hBody fc (kC c) v4 = some v' ∧ Bst v' (ev1 fc c st) := by
  rcases hw with ⟨rfl, h⟩ | ⟨rfl | rfl, h⟩ | ⟨h1, h2, h3⟩
  · refine ⟨v4 ^^^ 1, rfl, fun i hi => ?_⟩
    obtain ⟨b, r, rfl⟩ : ∃ b r, st = b :: r := by cases st with | nil => exact absurd h (by decide) | cons b r => exact ⟨b, r, rfl⟩
    have hi' : i < (b :: r).length := hi
    have hi2 : i < 32 := by omega
    rw [Int32.toBitVec_xor, BitVec.getLsbD_xor, hb i hi', q_b1 i hi2]
    show _ = ((!b) :: r).getD i false
    cases i with
    | zero => cases b <;> rfl
    | succ i => simp
  · obtain ⟨b, a, r, rfl⟩ : ∃ b a r, st = b :: a :: r := by
      rcases st with _ | ⟨b, _ | ⟨a, r⟩⟩
      · exact absurd h (by simp)
      · exact absurd h (by simp)
      · exact ⟨b, a, r, rfl⟩
    refine ⟨(v4 >>> (1 &&& 31)) &&& (v4 ||| (-2)), rfl, fun i hi => ?_⟩
    have hi' : i + 1 < (b :: a :: r).length := Nat.succ_lt_succ hi
    have hi2 : i + 1 < 32 := by omega
    rw [Int32.toBitVec_and, BitVec.getLsbD_and, q_sh1 v4 i hi2, hb (i + 1) hi', Int32.toBitVec_or, BitVec.getLsbD_or, q_bm2 i (by omega)]
    show _ = ((a && b) :: r).getD i false
    cases i with
    | zero =>
      rw [hb 0 (by omega)]
      cases a <;> cases b <;> rfl
    | succ i => simp
  · obtain ⟨b, a, r, rfl⟩ : ∃ b a r, st = b :: a :: r := by
      rcases st with _ | ⟨b, _ | ⟨a, r⟩⟩
      · exact absurd h (by simp)
      · exact absurd h (by simp)
      · exact ⟨b, a, r, rfl⟩
    refine ⟨(v4 >>> (1 &&& 31)) ||| (v4 &&& 1), rfl, fun i hi => ?_⟩
    have hi' : i + 1 < (b :: a :: r).length := Nat.succ_lt_succ hi
    have hi2 : i + 1 < 32 := by omega
    rw [Int32.toBitVec_or, BitVec.getLsbD_or, q_sh1 v4 i hi2, hb (i + 1) hi', Int32.toBitVec_and, BitVec.getLsbD_and, q_b1 i (by omega)]
    show _ = ((a || b) :: r).getD i false
    cases i with
    | zero =>
      rw [hb 0 (by omega)]
      cases a <;> cases b <;> rfl
    | succ i => simp
  · refine ⟨_, hBody_t h1 h2, fun i hi => ?_⟩
    have e : ev1 fc c st = tfc fc c :: st := by unfold ev1; rw [if_neg (by omega), if_neg (by omega), if_neg (by omega)]
    rw [e] at hi ⊢
    have hi2 : i < 32 := by simp at hi; omega
    rw [Int32.toBitVec_or, BitVec.getLsbD_or, q_shl1 v4 i hi2, q_bb _ i hi2]
    cases i with
    | zero => simp
    | succ i =>
      have h5 : i < st.length := by simp at hi; exact hi
      simp [hb i h5]
/-- a clause's code, run by the class -/
theorem hold_run {n tl : Nat} {I : Nat → Int32} {R : Nat → Nat → Int32} {fc : Nat → Int32} {i e : Nat} (hi : i < 10) (he : R 9 i = nI e) (htl : e ≤ tl) (htl2 : tl ≤ 100) :
    ∀ (cs : List Nat) (pos k : Nat) (v4 : Int32) (st : List Bool) (h' : Nat), wf cs st.length h' → st.length ≤ 30 → (∀ j, j < cs.length → R 5 (pos + j) = kC (cs.getD j 0)) → pos + cs.length = e → cs.length < k → Bst v4 st → ∃ v', l_Ni_holds_23 n tl I R fc (nI i) k v4 (nI pos) = some v' ∧ Bst v' (ev fc cs st)
  | [], pos, k, v4, st, h', hw, hs, hm, hp, hk, hb => by
    cases k with
    | zero => simp at hk
    | succ k =>
      refine ⟨v4, ?_, hb⟩
      simp only [List.length_nil, Nat.add_zero] at hp
      rw [hBody_eq, if_pos (nI_in hi (by omega)), nI_clamp (by omega), he, if_pos (nI_le (by omega) (by omega))]
  | c :: cs, pos, k, v4, st, h', hw, hs, hm, hp, hk, hb => by
    cases k with
    | zero => simp at hk
    | succ k =>
      simp only [List.length_cons] at hp hk
      obtain ⟨v', h1, h2⟩ := hB_step (fc := fc) hw.1 hs hb
      have hl := ev1_len (fc := fc) hw.1
      have hh : hg c st.length ≤ 30 := by
        unfold hg
        rcases hw.1 with ⟨rfl, h⟩ | ⟨rfl | rfl, h⟩ | ⟨h1, h2, h3⟩
        · simp; omega
        · simp; omega
        · simp; omega
        · rw [if_neg (by omega), if_neg (by omega)]; omega
      obtain ⟨v2, h3, h4⟩ := hold_run hi he htl htl2 cs (pos + 1) k v' (ev1 fc c st) h' (by rw [hl]; exact hw.2) (by rw [hl]; exact hh) (fun j hj => by
        have := hm (j + 1) (by simp; omega)
        rw [show pos + 1 + j = pos + (j + 1) by omega, this]; rfl) (by omega) (by omega) h2
      refine ⟨v2, ?_, h4⟩
      have hm0 := hm 0 (by simp)
      rw [Nat.add_zero] at hm0
      have e0 : (c :: cs).getD 0 0 = c := rfl
      rw [hBody_eq, if_pos (nI_in hi (by omega)), nI_clamp (n := i) (by omega), he, if_neg (nI_ge (by omega) (by omega)), if_pos (nI_in (by omega) (by omega)), nI_clamp (n := pos) (by omega), hm0, e0, h1, nI_1]
      exact h3
def holdsS (fc : Nat → Int32) (cs : List Nat) : Bool := (ev fc cs []).headD false
theorem q_low (y : Int32) : ((y &&& 1) = 1) ↔ y.toBitVec.getLsbD 0 = true := by
  rw [pk_and y 1 (by decide : (1 : Int32).toBitVec.toNat = 2 ^ 1 - 1)]
  have h1 : y.toBitVec.toNat % 2 ^ 1 < 2 := Nat.mod_lt _ (by decide)
  rw [show (1 : Int32) = nI 1 from rfl, nI_eq (by omega) (by omega)]
  simp only [BitVec.getLsbD, Nat.testBit_zero, Nat.pow_one, decide_eq_true_eq]
theorem holds_ok {n tl : Nat} {I : Nat → Int32} {R : Nat → Nat → Int32} {fc : Nat → Int32} {i b : Nat} {cs : List Nat} (hi : i < 10) (hb : (if i = 0 then b = 0 else R 9 (i - 1) = nI b)) (he : R 9 i = nI (b + cs.length)) (htl : b + cs.length ≤ tl) (htl2 : tl ≤ 100) (hw : wf cs 0 1) (hm : ∀ j, j < cs.length → R 5 (b + j) = kC (cs.getD j 0)) (hn : 200 ≤ n) : p_Ni_holds n tl I R fc (nI i) = some (b2i (holdsS fc cs)) := by
  unfold p_Ni_holds
  have h0 : (if nI i ≤ 0 then some 0 else if ix (nI i - 1) 10 then some ((R 9) (nI i - 1).toNatClampNeg) else none : Option Int32) = some (nI b) := by
    cases i with
    | zero =>
      rw [if_pos rfl] at hb
      rw [hb]; rfl
    | succ i =>
      rw [if_neg (by omega)] at hb
      rw [if_neg (nI_nle (by omega) (by omega)), nI_pred, if_pos (nI_in (by omega) (by omega)), nI_clamp (by omega)]
      exact congrArg some hb
  obtain ⟨v', h1, h2⟩ := hold_run (n := n) (I := I) (fc := fc) hi he htl htl2 cs b n 0 [] 1 hw (by decide) hm rfl (by omega) (fun i hi => absurd hi (by simp))
  rw [h0]
  show (l_Ni_holds_23 n tl I R fc (nI i) n 0 (nI b)).bind _ = _
  rw [h1]
  show ((if (v' &&& 1) = 1 then some 1 else some 0 : Option Int32)).bind _ = _
  have hl := ev_len (fc := fc) cs [] 1 hw
  have h3 := h2 0 (by omega)
  have h4 : holdsS fc cs = v'.toBitVec.getLsbD 0 := by
    rw [h3]
    unfold holdsS
    cases ev fc cs [] <;> rfl
  rw [h4]
  by_cases hq : v'.toBitVec.getLsbD 0 = true
  · rw [if_pos ((q_low v').mpr hq), hq]; rfl
  · rw [if_neg (fun hh => hq ((q_low v').mp hh)), Bool.eq_false_iff.mpr hq]; rfl
