/-! ===== a night's clauses, run by the model ===== -/
theorem q_upS {R : Nat → Nat → Int32} {k j : Nat} {x : Int32} : upR R k j x k = upd (R k) j x := by simp only [upR, va_up, if_true]
theorem q_upN {R : Nat → Nat → Int32} {k j q : Nat} {x : Int32} (h : q ≠ k) : upR R k j x q = R q := by simp only [upR, va_up, if_neg h]
def mBody (c v6 : Int32) (I : Nat → Int32) (R : Nat → Nat → Int32) : Option (Int32 × (Nat → Int32) × (Nat → Nat → Int32)) := (if c < 0 then (if c = (-1) then if ix (v6 - 1) 64 then (if (R 10 (v6 - 1).toNatClampNeg) = 0 then some 1 else some 0 : Option (Int32)).bind fun x30 => if ix (v6 - 1) 64 then some (v6, I, (upR R 10 (v6 - 1).toNatClampNeg (vp_nar .boolean x30))) else none else none else (if c ≤ (-10) then (if (R 10 0) = 0 then some 0 else (if c = (-200) then some 0 else some ((-10) - c)) : Option (Int32)).bind fun x17 => (if ((upd I 11 ((I 11) + x17)) 12) = 0 then (if (R 10 0) = 0 then some 0 else (if c = (-200) then some 1 else some 0)) else some 1 : Option (Int32)).bind fun x19 => if isZ x19 then some (0, (upd (upd I 11 ((I 11) + x17)) 12 x19), R) else none else (if c = (-2) then if ix ((v6 + (-1)) - 1) 64 then (if (R 10 ((v6 + (-1)) - 1).toNatClampNeg) = 0 then some 0 else if ix (v6 + (-1)) 64 then (if (R 10 (v6 + (-1)).toNatClampNeg) = 0 then some 0 else some 1) else none) else none else if ix ((v6 + (-1)) - 1) 64 then (if (R 10 ((v6 + (-1)) - 1).toNatClampNeg) = 0 then if ix (v6 + (-1)) 64 then (if (R 10 (v6 + (-1)).toNatClampNeg) = 0 then some 0 else some 1) else none else some 1) else none : Option (Int32)).bind fun x22 => if ix ((v6 + (-1)) - 1) 64 then some ((v6 + (-1)), I, (upR R 10 ((v6 + (-1)) - 1).toNatClampNeg (vp_nar .boolean x22))) else none)) else if ix ((c - c / 8 * 8)) 6 then (if ((c / 8) - (c / 8) / 4 * 4) = 0 then (if (c / 32) ≤ (R 9 ((c - c / 8 * 8)).toNatClampNeg) then some 0 else some 1) else (if ((c / 8) - (c / 8) / 4 * 4) = 1 then (if (R 9 ((c - c / 8 * 8)).toNatClampNeg) = (c / 32) then some 1 else some 0) else (if (R 9 ((c - c / 8 * 8)).toNatClampNeg) ≤ (c / 32) then some 0 else some 1)) : Option (Int32)).bind fun x34 => if ix v6 64 then some ((v6 + 1), I, (upR R 10 v6.toNatClampNeg (vp_nar .boolean x34))) else none else none)
theorem mBody_eq {n : Nat} {I : Nat → Int32} {R : Nat → Nat → Int32} {k : Nat} {v4 v5 v6 v7 : Int32} : l_Md_looks_152 n v4 v5 (k + 1) v6 v7 I R = (if (v5 + v4) ≤ v7 then some (I, R) else if ix v7 890 then (mBody (R 1 v7.toNatClampNeg) v6 I R).bind fun (x13, I14, R15) => l_Md_looks_152 n v4 v5 k x13 (v7 + 1) I14 R15 else none) := rfl
theorem vn_b (b : Bool) : vp_nar .boolean (b2i b) = b2i b := by cases b <;> rfl
theorem mB_t {fc : Nat → Int32} {c h : Nat} {I : Nat → Int32} {R : Nat → Nat → Int32} (h1 : 3 ≤ c) (h2 : c < 1803) (h3 : h < 64) (hf : ∀ j, j < 6 → R 9 j = fc j) : mBody (kM c) (nI h) I R = some (nI (h + 1), I, upR R 10 h (b2i (tfc fc c))) := by
  obtain ⟨t, rfl⟩ : ∃ t, c = t + 3 := ⟨c - 3, by omega⟩
  have f6 : t / 300 < 6 := by omega
  have s3 : t / 100 % 3 < 3 := Nat.mod_lt _ (by omega)
  have x1 : t % 100 < 100 := Nat.mod_lt _ (by omega)
  have e0 : kM (t + 3) = nI (t / 300 + 8 * (t / 100 % 3) + 32 * (t % 100)) := by unfold kM; rw [if_neg (by omega), if_neg (by omega), if_neg (by omega), Nat.add_sub_cancel]
  have et : tfc fc (t + 3) = tsv (fc (t / 300)) (t / 100 % 3) (t % 100) := by unfold tfc; rw [Nat.add_sub_cancel]
  rw [e0, et]
  generalize t / 300 = f at f6 ⊢
  generalize t / 100 % 3 = s at s3 ⊢
  generalize t % 100 = x at x1 ⊢
  unfold mBody
  have e1 : nI (f + 8 * s + 32 * x) / (8 : Int32) = nI ((f + 8 * s + 32 * x) / 8) := pk_div (d := 8) (by omega) (by omega) (by omega)
  have e2 : nI (f + 8 * s + 32 * x) / (32 : Int32) = nI x := (pk_div (d := 32) (by omega) (by omega) (by omega)).trans (by congr 1; omega)
  have e3 : nI (f + 8 * s + 32 * x) - nI ((f + 8 * s + 32 * x) / 8) * 8 = nI f := by
    rw [← e1]
    exact (pk_rem (d := 8) (by omega) (by omega) (by omega)).trans (by congr 1; omega)
  have e4 : nI ((f + 8 * s + 32 * x) / 8) - nI ((f + 8 * s + 32 * x) / 8) / (4 : Int32) * 4 = nI s := (pk_rem (d := 4) (by omega) (by omega) (by omega)).trans (by congr 1; omega)
  have hx : ix (nI h) 64 := nI_in h3 (by omega)
  have hy : ix (nI f) 6 := nI_in f6 (by omega)
  rw [if_neg (nI_pos (by omega)), e1, e2, e3, e4]
  simp only [if_pos hx, if_pos hy, nI_clamp (show f < 2 ^ 31 by omega), nI_clamp (show h < 2 ^ 31 by omega), hf f f6, q_tsv, ← tsv_eq s3, Option.bind_some, nI_1, vn_b]
theorem mB_n {b : Bool} {h : Nat} {I : Nat → Int32} {R : Nat → Nat → Int32} (h3 : h < 64) (hb : R 10 h = b2i b) : mBody (kM 0) (nI (h + 1)) I R = some (nI (h + 1), I, upR R 10 h (b2i (!b))) := by
  have e0 : kM 0 = -1 := rfl
  have hx : ix (nI h) 64 := nI_in h3 (by omega)
  rw [e0]
  unfold mBody
  rw [if_pos (by decide), if_pos rfl]
  simp only [nI_pred, if_pos hx, nI_clamp (show h < 2 ^ 31 by omega), hb]
  cases b <;> rfl
theorem mB_a {a b : Bool} {h : Nat} {I : Nat → Int32} {R : Nat → Nat → Int32} (h3 : h + 1 < 64) (ha : R 10 h = b2i a) (hb : R 10 (h + 1) = b2i b) : mBody (kM 1) (nI (h + 2)) I R = some (nI (h + 1), I, upR R 10 h (b2i (a && b))) := by
  have e0 : kM 1 = -2 := rfl
  have hx : ix (nI h) 64 := nI_in (by omega) (by omega)
  have hy : ix (nI (h + 1)) 64 := nI_in (by omega) (by omega)
  have e1 : nI (h + 2) + (-1) = nI (h + 1) := pk_m1 (h + 1)
  rw [e0]
  unfold mBody
  rw [if_pos (by decide), if_neg (by decide), if_neg (by decide), if_pos rfl]
  simp only [e1, nI_pred, if_pos hx, if_pos hy, nI_clamp (show h < 2 ^ 31 by omega), nI_clamp (show h + 1 < 2 ^ 31 by omega), ha, hb]
  cases a <;> cases b <;> rfl
theorem mB_o {a b : Bool} {h : Nat} {I : Nat → Int32} {R : Nat → Nat → Int32} (h3 : h + 1 < 64) (ha : R 10 h = b2i a) (hb : R 10 (h + 1) = b2i b) : mBody (kM 2) (nI (h + 2)) I R = some (nI (h + 1), I, upR R 10 h (b2i (a || b))) := by
  have e0 : kM 2 = -3 := rfl
  have hx : ix (nI h) 64 := nI_in (by omega) (by omega)
  have hy : ix (nI (h + 1)) 64 := nI_in (by omega) (by omega)
  have e1 : nI (h + 2) + (-1) = nI (h + 1) := pk_m1 (h + 1)
  rw [e0]
  unfold mBody
  rw [if_pos (by decide), if_neg (by decide), if_neg (by decide), if_neg (by decide)]
  simp only [e1, nI_pred, if_pos hx, if_pos hy, nI_clamp (show h < 2 ^ 31 by omega), nI_clamp (show h + 1 < 2 ^ 31 by omega), ha, hb]
  cases a <;> cases b <;> rfl
theorem Tst_tl {f : Nat → Int32} {b : Bool} {r : List Bool} (h : Tst f (b :: r)) : Tst f r := fun i hi => by
  have := h (i + 1) (by simp; exact hi)
  simp only [List.length_cons] at this
  rw [show r.length + 1 - 1 - (i + 1) = r.length - 1 - i by omega] at this
  exact this
theorem Tst_hd {f : Nat → Int32} {b : Bool} {r : List Bool} (h : Tst f (b :: r)) : f r.length = b2i b := by
  have := h 0 (by simp)
  simp only [List.length_cons] at this
  exact this
theorem Tst_push {f : Nat → Int32} {b : Bool} {r : List Bool} (h : Tst f r) : Tst (upd f r.length (b2i b)) (b :: r) := fun i hi => by
  cases i with
  | zero => exact pk_us
  | succ i =>
    have hi' : i < r.length := by simp at hi; exact hi
    have := h i hi'
    simp only [List.length_cons]
    rw [show r.length + 1 - 1 - (i + 1) = r.length - 1 - i by omega, pk_un (by omega), this]
    rfl
theorem mB_step {fc : Nat → Int32} {c : Nat} {st : List Bool} {I : Nat → Int32} {R : Nat → Nat → Int32} (hw : wf1 c st.length) (hs : st.length ≤ 30) (hb : Tst (R 10) st) (hf : ∀ j, j < 6 → R 9 j = fc j) : ∃ R', mBody (kM c) (nI st.length) I R = some (nI (ev1 fc c st).length, I, R') ∧ Tst (R' 10) (ev1 fc c st) ∧ ∀ q, q ≠ 10 → R' q = R q := by
  rcases hw with ⟨rfl, h⟩ | ⟨rfl | rfl, h⟩ | ⟨h1, h2, h3⟩
  · obtain ⟨b, r, rfl⟩ : ∃ b r, st = b :: r := by cases st with | nil => exact absurd h (by decide) | cons b r => exact ⟨b, r, rfl⟩
    simp only [List.length_cons] at hs
    refine ⟨_, mB_n (by omega) (Tst_hd hb), ?_, fun q hq => q_upN hq⟩
    rw [q_upS]
    exact Tst_push (Tst_tl hb)
  · obtain ⟨b, a, r, rfl⟩ : ∃ b a r, st = b :: a :: r := by
      rcases st with _ | ⟨b, _ | ⟨a, r⟩⟩
      · exact absurd h (by simp)
      · exact absurd h (by simp)
      · exact ⟨b, a, r, rfl⟩
    simp only [List.length_cons] at hs
    refine ⟨_, mB_a (by omega) (Tst_hd (Tst_tl hb)) (Tst_hd hb), ?_, fun q hq => q_upN hq⟩
    rw [q_upS]
    exact Tst_push (Tst_tl (Tst_tl hb))
  · obtain ⟨b, a, r, rfl⟩ : ∃ b a r, st = b :: a :: r := by
      rcases st with _ | ⟨b, _ | ⟨a, r⟩⟩
      · exact absurd h (by simp)
      · exact absurd h (by simp)
      · exact ⟨b, a, r, rfl⟩
    simp only [List.length_cons] at hs
    refine ⟨_, mB_o (by omega) (Tst_hd (Tst_tl hb)) (Tst_hd hb), ?_, fun q hq => q_upN hq⟩
    rw [q_upS]
    exact Tst_push (Tst_tl (Tst_tl hb))
  · have e : ev1 fc c st = tfc fc c :: st := by unfold ev1; rw [if_neg (by omega), if_neg (by omega), if_neg (by omega)]
    rw [e]
    refine ⟨_, mB_t h1 h2 (by omega) hf, ?_, fun q hq => q_upN hq⟩
    rw [q_upS]
    exact Tst_push hb
theorem hg_le {c h : Nat} (hw : wf1 c h) (hs : h ≤ 30) : hg c h ≤ 30 := by
  unfold hg
  rcases hw with ⟨rfl, h⟩ | ⟨rfl | rfl, h⟩ | ⟨h1, h2, h3⟩
  · simp; omega
  · simp; omega
  · simp; omega
  · rw [if_neg (by omega), if_neg (by omega)]; omega
/-- a clause's code, run by the model: from pos on, k steps of fuel left behind it -/
theorem look_run {n : Nat} {fc : Nat → Int32} {fr mn : Nat} {s : Nat → Int32} (hfm : fr + mn ≤ 890) :
    ∀ (cs : List Nat) (pos k : Nat) (st : List Bool) (h' : Nat) (I : Nat → Int32) (R : Nat → Nat → Int32), R 1 = s → wf cs st.length h' → st.length ≤ 30 → (∀ j, j < cs.length → s (pos + j) = kM (cs.getD j 0)) → pos + cs.length ≤ fr + mn → Tst (R 10) st → (∀ j, j < 6 → R 9 j = fc j) → ∃ R', l_Md_looks_152 n (nI mn) (nI fr) (k + cs.length) (nI st.length) (nI pos) I R = l_Md_looks_152 n (nI mn) (nI fr) k (nI h') (nI (pos + cs.length)) I R' ∧ Tst (R' 10) (ev fc cs st) ∧ ∀ q, q ≠ 10 → R' q = R q
  | [], pos, k, st, h', I, R, hR, hw, hs, hm, hp, hb, hf => by
    have hw' : st.length = h' := hw
    subst hw'
    exact ⟨R, rfl, hb, fun q _ => rfl⟩
  | c :: cs, pos, k, st, h', I, R, hR, hw, hs, hm, hp, hb, hf => by
    simp only [List.length_cons] at hp
    obtain ⟨R1, h1, h2, h3⟩ := mB_step (I := I) hw.1 hs hb hf
    have hl := ev1_len (fc := fc) hw.1
    obtain ⟨R2, h4, h5, h6⟩ := look_run (n := n) (fc := fc) hfm cs (pos + 1) k (ev1 fc c st) h' I R1 (by rw [h3 1 (by decide), hR]) (by rw [hl]; exact hw.2) (by rw [hl]; exact hg_le hw.1 hs) (fun j hj => by
        have := hm (j + 1) (by simp; omega)
        rw [show pos + 1 + j = pos + (j + 1) by omega, this]; rfl) (by omega) h2 (fun j hj => by rw [h3 9 (by decide)]; exact hf j hj)
    refine ⟨R2, ?_, h5, fun q hq => by rw [h6 q hq, h3 q hq]⟩
    have hm0 := hm 0 (by simp)
    rw [Nat.add_zero] at hm0
    have e0 : (c :: cs).getD 0 0 = c := rfl
    rw [List.length_cons, ← Nat.add_assoc, mBody_eq, nI_add, if_neg (nI_ge (by omega) (by omega)), if_pos (nI_in (by omega) (by omega)), nI_clamp (n := pos) (by omega), hR, hm0, e0, h1]
    show l_Md_looks_152 n (nI mn) (nI fr) (k + cs.length) (nI (ev1 fc c st).length) (nI pos + 1) I R1 = _
    rw [nI_1, h4]
    congr 2
    omega
/-- a clause: its word (0 slow, 1 bar, 2 bears, 3 heavy, 4 oil), its number, its code -/
abbrev Cls : Type := Nat × Nat × List Nat
def clOK (c : Cls) : Prop := c.1 < 5 ∧ c.2.1 ≤ 99 ∧ (c.1 < 2 → wf c.2.2 0 1) ∧ (2 ≤ c.1 → c.2.2 = [])
def stp1 (c : Cls) : List Int32 := if c.1 = 0 then c.2.2.map kM ++ [(-10) - nI c.2.1] else if c.1 = 1 then c.2.2.map kM ++ [-200] else []
def stp (L : List Cls) : List Int32 := L.flatMap stp1
def slw (fc : Nat → Int32) : List Cls → Nat
  | [] => 0
  | c :: L => (if c.1 = 0 ∧ holdsS fc c.2.2 = true then c.2.1 else 0) + slw fc L
def brr (fc : Nat → Int32) : List Cls → Bool
  | [] => false
  | c :: L => (decide (c.1 = 1) && holdsS fc c.2.2) || brr fc L
theorem slw_le (fc : Nat → Int32) : ∀ L : List Cls, (∀ c ∈ L, clOK c) → slw fc L ≤ 99 * L.length
  | [], _ => by simp [slw]
  | c :: L, h => by
    have h1 := slw_le fc L (fun c hc => h c (List.mem_cons_of_mem _ hc))
    have h2 := (h c List.mem_cons_self).2.1
    simp only [slw, List.length_cons]
    split <;> omega
theorem q_m10 : ∀ x, x < 100 → ((-10) - nI x < 0 ∧ ¬ (-10) - nI x = (-1) ∧ (-10) - nI x ≤ (-10) ∧ ¬ (-10) - nI x = (-200) ∧ (-10) - ((-10) - nI x) = nI x) := by decide +kernel
theorem b2i_if2 (b : Bool) (y : Int32) : (if b2i b = 0 then some 0 else some y : Option Int32) = some (if b = true then y else 0) := by cases b <;> rfl
theorem b2i_if3 (b br : Bool) : (if b2i br = 0 then (if b2i b = 0 then some 0 else some 1) else some 1 : Option Int32) = some (b2i (br || b)) := by cases b <;> cases br <;> rfl
theorem mB_s {h x : Nat} {b : Bool} {I : Nat → Int32} {R : Nat → Nat → Int32} {br : Bool} (hx : x ≤ 99) (hb : R 10 0 = b2i b) (hI : I 12 = b2i br) : mBody ((-10) - nI x) (nI h) I R = some (nI 0, upd (upd I 11 (I 11 + (if b = true then nI x else 0))) 12 (b2i br), R) := by
  obtain ⟨h1, h2, h3, h4, h5⟩ := q_m10 x (by omega)
  have e : ∀ y, (upd I 11 y) 12 = b2i br := fun y => by rw [pk_un (by decide), hI]
  unfold mBody
  rw [if_pos h1, if_neg h2, if_pos h3]
  simp only [if_neg h4, h5, hb, e, b2i_if2, Option.bind_some, ite_self, b2i_if]
  have hz : isZ (if br = true then (1 : Int32) else 0) := b2i_z br
  rw [if_pos hz]
  rfl
theorem mB_b {h : Nat} {b : Bool} {I : Nat → Int32} {R : Nat → Nat → Int32} {br : Bool} (hb : R 10 0 = b2i b) (hI : I 12 = b2i br) : mBody (-200) (nI h) I R = some (nI 0, upd (upd I 11 (I 11 + 0)) 12 (b2i (br || b)), R) := by
  have e : ∀ y, (upd I 11 y) 12 = b2i br := fun y => by rw [pk_un (by decide), hI]
  unfold mBody
  rw [if_pos (by decide), if_neg (by decide), if_pos (by decide)]
  simp only [if_true, hb, e, b2i_if3, Option.bind_some, ite_self, if_pos (b2i_z (br || b))]
  rfl
