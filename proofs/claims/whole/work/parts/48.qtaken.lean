/-! ===== what one takes, by the class ===== -/
theorem tfc_cg {fc fc' : Nat → Int32} (h : ∀ j, j < 6 → fc j = fc' j) {c : Nat} (h2 : c < 1803) : tfc fc c = tfc fc' c := by
  unfold tfc
  rw [h _ (by omega)]
theorem ev1_cg {fc fc' : Nat → Int32} (h : ∀ j, j < 6 → fc j = fc' j) {c : Nat} {st : List Bool} (hw : wf1 c st.length) : ev1 fc c st = ev1 fc' c st := by
  unfold ev1
  rcases hw with ⟨rfl, _⟩ | ⟨rfl | rfl, _⟩ | ⟨h1, h2, h3⟩
  · simp
  · simp
  · simp
  · rw [tfc_cg h h2]
theorem ev_cg {fc fc' : Nat → Int32} (h : ∀ j, j < 6 → fc j = fc' j) : ∀ (cs : List Nat) (st : List Bool) (h' : Nat), wf cs st.length h' → ev fc cs st = ev fc' cs st
  | [], st, h', _ => rfl
  | c :: cs, st, h', a => by
    show ev fc cs (ev1 fc c st) = ev fc' cs (ev1 fc' c st)
    rw [← ev1_cg h a.1]
    exact ev_cg h cs _ h' (by rw [ev1_len a.1]; exact a.2)
theorem slw_cg {fc fc' : Nat → Int32} (h : ∀ j, j < 6 → fc j = fc' j) : ∀ L : List Cls, (∀ c ∈ L, clOK c) → slw fc L = slw fc' L ∧ brr fc L = brr fc' L
  | [], _ => ⟨rfl, rfl⟩
  | c :: L, hok => by
    obtain ⟨h1, h2⟩ := slw_cg h L (fun c hc => hok c (List.mem_cons_of_mem _ hc))
    have hc := hok c List.mem_cons_self
    simp only [slw, brr, h1, h2]
    by_cases h3 : c.1 < 2
    · have : holdsS fc c.2.2 = holdsS fc' c.2.2 := by
        unfold holdsS
        rw [ev_cg h c.2.2 [] 1 (hc.2.2.1 h3)]
      rw [this]
      exact ⟨rfl, rfl⟩
    · have n0 : ¬ c.1 = 0 := by omega
      have n1 : ¬ c.1 = 1 := by omega
      simp [n0, n1]
theorem q_dif64 : ∀ a, a < 64 → ∀ b, b < 64 → dif a b < 64 := by decide +kernel
theorem q_difb : ∀ a, a < 64 → ∀ p, p < 6 → ∀ q, q < 6 → bt (dif a (2 ^ p)) q = (bt a q && decide (q ≠ p)) := by decide +kernel
theorem q_alone : ∀ a, a < 64 → ∀ p, p < 6 → bt a p = true → (nI (dif a (2 ^ p)) = 0 ↔ pop a = 1) := by decide +kernel
theorem q_bes : ∀ a, a < 64 → ∀ p, p < 6 → ((nI (dif a (2 ^ p)) &&& (((1 <<< (nI p &&& 31)) <<< (1 &&& 31)) ||| ((1 <<< (nI p &&& 31)) >>> (1 &&& 31)))) = 0 ↔ nbr p a = false) := by decide +kernel
theorem q_pw : ∀ p, p < 6 → 2 ^ p < 64 := by decide
theorem q_oth {a p : Nat} (ha : a < 64) (hp : p < 6) : nI a &&& ((1 <<< (nI p &&& 31)) ^^^ (-1)) = nI (dif a (2 ^ p)) := by
  rw [q_one p (by omega), q_dif a ha _ (q_pw p hp)]
def isW (E : PE) (s : Nat → Int32) (i q : Nat) : Prop := eV E q = true ∧ eC E q = clsOf (s (10 + i)) ∧ eD E q 0 = s (10 + i) ∧ eD E q 1 = nI i ∧ eD E q 2 = s (16 + i) ∧ eD E q 3 = s (22 + i) ∧ eD E q 4 = s (28 + i)
/-- the class' tables look at these people and this night -/
def GoV (E : PE) (F : Nat → Nat → Int32) (P : Nat → Nat → Option Nat) (N : Nat → Nat) (s : Nat → Int32) (m : Nat) (L : List Cls) (be he : Nat) : Prop :=
  F 3 1 = nI m ∧ F 3 2 = nI (2 ^ m - 1) ∧ (∃ lb, lb < 64 ∧ F 3 3 = nI lb ∧ ∀ q, q < 6 → bt lb q = (decide (q < m) && decide (s (10 + q) = 4))) ∧ (∀ i, i < m → ∃ q, P 10 i = some q ∧ isW E s i q) ∧ eN E (N 3) = true ∧ NgC (eT E (N 3)) (eI E (N 3)) (eR E (N 3)) L ∧ eI E (N 3) 0 = nI be ∧ eI E (N 3) 1 = nI he
theorem qd_top {m p a : Nat} (ha : a < 2 ^ m) (hm : m ≤ 6) : ∀ c, c ≤ 6 - m → qd p a c = 9
  | 0, _ => rfl
  | c + 1, h => by
    simp only [qd]
    rw [if_neg (fun q => by have q2 := q.2; rw [q_btm ha (by omega)] at q2; exact absurd q2 (by decide)), qd_top ha hm c (by omega)]
theorem layF12 {n m p a q : Nat} {w : Int32} {E : PE} {F G : Nat → Nat → Int32} {P : Nat → Nat → Option Nat} {N : Nat → Nat} {s : Nat → Int32} (hm : m ≤ 6) (ha : a < 2 ^ m) (hq : isW E s p q) (hp : p < m) (hn : 20 ≤ n) : l_Go_layFacts_12 n E q (nI a) w F G P N n 9 (nI m - 1) = some (nI (qd p a 6)) := by
  have ha6 := isS_lt hm ha
  have e := q_lpf (fun k i (v : Int32) => l_Go_layFacts_12 n E q (nI a) w F G P N k v (nI (m - i) - 1)) m (fun i => nI (qd p a (6 - m + i))) (nI (qd p a 6)) (fun k => by
    show l_Go_layFacts_12 n E q (nI a) w F G P N (k + 1) _ (nI (m - m) - 1) = _
    rw [l_Go_layFacts_12, Nat.sub_self, if_pos (by decide), show 6 - m + m = 6 by omega]) (fun k i hi => by
    show l_Go_layFacts_12 n E q (nI a) w F G P N (k + 1) (nI (qd p a (6 - m + i))) (nI (m - i) - 1) = l_Go_layFacts_12 n E q (nI a) w F G P N k (nI (qd p a (6 - m + (i + 1)))) (nI (m - (i + 1)) - 1)
    have e1 : (if nI (m - 1 - i) = nI p then some (nI (qd p a (6 - m + i))) else (if ((nI a >>> (nI (m - 1 - i) &&& 31)) &&& 1) = 1 then some (nI (m - 1 - i)) else some (nI (qd p a (6 - m + i)))) : Option Int32) = some (nI (qd p a (6 - m + (i + 1)))) := by
      rw [show 6 - m + (i + 1) = (6 - m + i) + 1 by omega]
      simp only [qd]
      rw [show 5 - (6 - m + i) = m - 1 - i by omega]
      by_cases h1 : m - 1 - i = p
      · rw [if_pos (by rw [h1]), if_neg (fun q => q.1 h1)]
      · rw [if_neg (fun q => h1 ((nI_eq (by omega) (by omega)).mp q))]
        by_cases h2 : bt a (m - 1 - i) = true
        · rw [if_pos ((q_bit1 a ha6 _ (by omega)).mpr h2), if_pos ⟨h1, h2⟩]
        · rw [if_neg (fun q => h2 ((q_bit1 a ha6 _ (by omega)).mp q)), if_neg (fun q => h2 q.2)]
    rw [show m - i = (m - 1 - i) + 1 by omega, nI_pred, show m - (i + 1) = m - 1 - i by omega, l_Go_layFacts_12, if_neg (nI_pos (by omega)), if_pos hq.1, hq.2.2.2.1, e1, q_m1s]
    rfl) 0 n (by omega) (by omega)
  have e' : l_Go_layFacts_12 n E q (nI a) w F G P N n (nI (qd p a (6 - m + 0))) (nI (m - 0) - 1) = some (nI (qd p a 6)) := e
  rw [Nat.add_zero, Nat.sub_zero, qd_top ha hm _ (Nat.le_refl _)] at e'
  exact e'
theorem layFactsC {n m p a w q be he : Nat} {E : PE} {F G : Nat → Nat → Int32} {P : Nat → Nat → Option Nat} {N : Nat → Nat} {s : Nat → Int32} {L : List Cls} (hV : GoV E F P N s m L be he) (hm : m ≤ 6) (ha : a < 2 ^ m) (hq : isW E s p q) (hp : p < m) (hn : 20 ≤ n) :
    ∃ G', p_Go_layFacts n E q (nI a) (nI w) F G P N = some (F, G', P, N) ∧ (∀ k, k ≠ 17 → G' k = G k) ∧ ∀ j, j < 6 → G' 17 j = fcs s p a w j := by
  unfold p_Go_layFacts
  rw [hV.1, layF12 hm ha hq hp hn]
  refine ⟨upR (upR (upR (upR (upR (upR G 17 0 (eD E q 1)) 17 1 (eD E q 0)) 17 2 (eD E q 4)) 17 3 (nI (pop a))) 17 4 (nI w)) 17 5 (nI (qd p a 6)), ?_, fun k hk => by simp only [q_upN hk], fun j hj => ?_⟩
  · show (if eV E q = true then (p_Integer_bitCount n (nI a)).bind _ else none) = _
    rw [if_pos hq.1, q_popC n a (isS_lt hm ha)]
    rfl
  · simp only [q_upS, hq.2.2.1, hq.2.2.2.1, hq.2.2.2.2.2.2]
    rcases (by omega : j = 0 ∨ j = 1 ∨ j = 2 ∨ j = 3 ∨ j = 4 ∨ j = 5) with rfl | rfl | rfl | rfl | rfl | rfl <;> simp [upd, fcs]
theorem heavyC {n m p a be he : Nat} {E : PE} {F G : Nat → Nat → Int32} {P : Nat → Nat → Option Nat} {N : Nat → Nat} {s : Nat → Int32} {L : List Cls} (hV : GoV E F P N s m L be he) (hm : m ≤ 6) (ha : a < 64) (hp : p < m) (hn : 20 ≤ n) : p_Go_goesHeavier n E F G P N (nI (dif a (2 ^ p))) (s (28 + p)) = some (b2i (hv s p a m)) := by
  unfold p_Go_goesHeavier
  have ho := q_dif64 a ha (2 ^ p) (q_pw p (by omega))
  obtain ⟨z, e, hz⟩ := q_lpr (fun k i (_ : Unit) => l_Go_goesHeavier_2 n E F G P N (nI (dif a (2 ^ p))) (s (28 + p)) k (nI i)) m (fun i _ => hv s p a i = false) (fun z => z = b2i (hv s p a m)) (fun k _ hb => by
      refine ⟨0, ?_, by rw [hb]; rfl⟩
      show l_Go_goesHeavier_2 n E F G P N (nI (dif a (2 ^ p))) (s (28 + p)) (k + 1) (nI m) = _
      rw [l_Go_goesHeavier_2, hV.1, if_pos (Int32.le_refl _)]) (fun k i _ hi hb => by
      obtain ⟨q, hq1, hq2⟩ := hV.2.2.2.1 i hi
      have e0 : l_Go_goesHeavier_2 n E F G P N (nI (dif a (2 ^ p))) (s (28 + p)) (k + 1) (nI i) = (if ((nI (dif a (2 ^ p)) >>> (nI i &&& 31)) &&& 1) = 1 then (if s (28 + i) ≤ s (28 + p) then l_Go_goesHeavier_2 n E F G P N (nI (dif a (2 ^ p))) (s (28 + p)) k (nI (i + 1)) else some 1) else l_Go_goesHeavier_2 n E F G P N (nI (dif a (2 ^ p))) (s (28 + p)) k (nI (i + 1))) := by
        rw [l_Go_goesHeavier_2, hV.1, if_neg (nI_ge hi (by omega)), if_pos (nI_in (by omega) (by omega)), nI_clamp (by omega), hq1, nI_1]
        show (if _ then if eV E q = true then _ else none else _) = _
        rw [if_pos hq2.1, hq2.2.2.2.2.2.2]
      have e1 : hv s p a (i + 1) = (hv s p a i || hvq s p a i) := hv_s s p a i
      have e2 : hvq s p a i = (bt (dif a (2 ^ p)) i && decide (s (28 + p) < s (28 + i))) := by
        rw [q_difb a ha p (by omega) i (by omega)]
        unfold hvq
        cases bt a i <;> cases decide (i ≠ p) <;> rfl
      by_cases hbt : bt (dif a (2 ^ p)) i = true
      · rw [if_pos ((q_bit1 _ ho i (by omega)).mpr hbt)] at e0
        by_cases hc : s (28 + i) ≤ s (28 + p)
        · rw [if_pos hc] at e0
          refine Or.inl ⟨(), e0, ?_⟩
          rw [e1, hb, e2, decide_eq_false (Int32.not_lt.mpr hc), Bool.and_false]; rfl
        · rw [if_neg hc] at e0
          refine Or.inr ⟨1, e0, ?_⟩
          have : hv s p a m = true := by
            unfold hv
            rw [List.any_eq_true]
            exact ⟨i, List.mem_range.mpr hi, by rw [e2, hbt, decide_eq_true (Int32.not_le.mp hc)]; rfl⟩
          rw [this]; rfl
      · rw [if_neg (fun q => hbt ((q_bit1 _ ho i (by omega)).mp q))] at e0
        refine Or.inl ⟨(), e0, ?_⟩
        rw [e1, hb, e2, Bool.eq_false_iff.mpr hbt]; rfl) 0 () n (by omega) (by omega) rfl
  have e' : l_Go_goesHeavier_2 n E F G P N (nI (dif a (2 ^ p))) (s (28 + p)) n 0 = some z := e
  rw [e', hz]
theorem ledC {m p a lb : Nat} {s : Nat → Int32} (hm : m ≤ 6) (ha : a < 64) (hp : p < m) (hl : lb < 64) (hlb : ∀ q, q < 6 → bt lb q = (decide (q < m) && decide (s (10 + q) = 4))) : (nI (dif a (2 ^ p)) &&& nI lb = 0) ↔ ld s p a m = false := by
  have ho := q_dif64 a ha (2 ^ p) (q_pw p (by omega))
  have hlt : dif a (2 ^ p) &&& lb < 2 ^ 6 := Nat.lt_of_le_of_lt Nat.and_le_left ho
  rw [q_and _ ho _ hl]
  constructor
  · intro h
    have h0 : dif a (2 ^ p) &&& lb = 0 := (nI_eq (a := dif a (2 ^ p) &&& lb) (b := 0) (by omega) (by omega)).mp h
    unfold ld
    rw [List.any_eq_false]
    intro q hq hc
    have hq' := List.mem_range.mp hq
    unfold ldq at hc
    simp only [Bool.and_eq_true, decide_eq_true_eq] at hc
    have b1 : bt (dif a (2 ^ p)) q = true := by rw [q_difb a ha p (by omega) q (by omega), hc.2.1, decide_eq_true hc.1]; rfl
    have b2 : bt lb q = true := by rw [hlb q (by omega), decide_eq_true hq', decide_eq_true hc.2.2]; rfl
    have b3 : (dif a (2 ^ p) &&& lb).testBit q = true := by
      rw [Nat.testBit_and]
      show (bt (dif a (2 ^ p)) q && bt lb q) = true
      rw [b1, b2]; rfl
    rw [h0, Nat.zero_testBit] at b3
    exact absurd b3 (by decide)
  · intro h
    apply Classical.byContradiction
    intro hc
    have hne : 1 ≤ dif a (2 ^ p) &&& lb := by
      apply Classical.byContradiction
      intro h2
      exact hc (by rw [show dif a (2 ^ p) &&& lb = 0 by omega]; rfl)
    obtain ⟨q, hq, hb⟩ := q_nz hlt hne
    have hb' : (dif a (2 ^ p) &&& lb).testBit q = true := hb
    rw [Nat.testBit_and] at hb'
    have b1 : bt (dif a (2 ^ p)) q = true := by
      cases hx : bt (dif a (2 ^ p)) q
      · rw [show (dif a (2 ^ p)).testBit q = false from hx, Bool.false_and] at hb'; exact absurd hb' (by decide)
      · rfl
    have b2 : bt lb q = true := by
      cases hx : bt lb q
      · rw [show lb.testBit q = false from hx, Bool.and_false] at hb'; exact absurd hb' (by decide)
      · rfl
    rw [q_difb a ha p (by omega) q hq] at b1
    rw [hlb q hq] at b2
    simp only [Bool.and_eq_true, decide_eq_true_eq] at b1 b2
    have : ld s p a m = true := by
      unfold ld
      rw [List.any_eq_true]
      refine ⟨q, List.mem_range.mpr b2.1, ?_⟩
      unfold ldq
      simp only [Bool.and_eq_true, decide_eq_true_eq]
      exact ⟨b1.2, b1.1, b2.2⟩
    rw [h] at this
    exact absurd this (by decide)
def zk (k v t : Nat) (h al nb b1 : Bool) : Int := if k = 1 ∨ k = 4 then (if al = true then (t : Int) - v else t) else if k = 2 then (if h = true then (t : Int) else t + v) else if k = 3 then (if nb = true then (t : Int) else t + v) else if k = 5 then (if al = true then (if h = true then (t : Int) else t + v) else ((((if h = true then t else t + v) + 1) / 2 : Nat) : Int)) else if k = 6 then (if nb = true then (t : Int) else t + v) + (if b1 = true then (v : Int) else 0) else t
theorem zk_tk {k v t : Nat} {h l al nb b1 : Bool} (hk : k ≤ 6) : max 1 (zk k v t h al nb b1 - (if l = true then 1 else 0)).toNat = tkN k v t h l al nb b1 := by
  have hk7 : k = 0 ∨ k = 1 ∨ k = 2 ∨ k = 3 ∨ k = 4 ∨ k = 5 ∨ k = 6 := by omega
  unfold zk tkN
  rcases hk7 with rfl | rfl | rfl | rfl | rfl | rfl | rfl <;> cases al <;> cases h <;> cases nb <;> cases b1 <;> cases l <;> simp <;> omega
theorem zk_b {k v t : Nat} {h al nb b1 : Bool} (hv : v ≤ 9) (ht : t ≤ 5000) : -100 ≤ zk k v t h al nb b1 ∧ zk k v t h al nb b1 ≤ 6000 := by
  unfold zk
  repeat' split
  all_goals omega
theorem laC {n ci v t : Nat} {h : Bool} {d : Nat → Int32} {v2 v4 : Int32} (d2 : d 2 = nI v) : p_La_byKind n ci d (nI t) v2 (b2i h) v4 = some (nI (if h = true then t else t + v)) := by
  unfold p_La_byKind
  rw [d2, nI_add]
  cases h <;> rfl
theorem tiC {n ci v t p a : Nat} {d : Nat → Int32} {v3 v4 : Int32} (hp : p < 6) (ha : a < 64) (d1 : d 1 = nI p) (d2 : d 2 = nI v) : p_Ti_byKind n ci d (nI t) (nI (dif a (2 ^ p))) v3 v4 = some (nI (if nbr p a = true then t else t + v)) := by
  unfold p_Ti_byKind
  have hnb := q_bes a ha p hp
  rw [d1, d2, nI_add]
  cases hc : nbr p a
  · rw [if_pos (hnb.mpr hc)]; rfl
  · rw [if_neg (fun q => by rw [hnb.mp q] at hc; exact absurd hc (by decide))]; rfl
theorem kd_ok {n k v t p a w : Nat} {h : Bool} {d : Nat → Int32} (hk : k ≤ 6) (hv : v ≤ 9) (ht : t ≤ 5000) (hw : w ≤ 1) (hp : p < 6) (ha : a < 64) (hb : bt a p = true) (d1 : d 1 = nI p) (d2 : d 2 = nI v) :
    ∃ x, pd_byKind n (clsOf (nI k)) d (nI t) (nI (dif a (2 ^ p))) (b2i h) (nI w) = some x ∧ x.toInt = zk k v t h (decide (pop a = 1)) (nbr p a) (decide (w = 1)) := by
  have hal := q_alone a ha p hp hb
  have hk7 : k = 0 ∨ k = 1 ∨ k = 2 ∨ k = 3 ∨ k = 4 ∨ k = 5 ∨ k = 6 := by omega
  have qu : ∀ ci, ∃ x, p_Qu_byKind n ci d (nI t) (nI (dif a (2 ^ p))) (b2i h) (nI w) = some x ∧ x.toInt = if decide (pop a = 1) = true then (t : Int) - v else t := by
    intro ci
    unfold p_Qu_byKind
    by_cases hc : pop a = 1
    · refine ⟨nI t - nI v, by rw [if_pos (hal.mpr hc), d2]; rfl, ?_⟩
      rw [decide_eq_true hc, if_pos rfl]
      exact i_sub (nI_toInt (by omega)) (nI_toInt (by omega)) (by omega) (by omega) (by omega) (by omega)
    · refine ⟨nI t, by rw [if_neg (fun q => hc (hal.mp q))]; rfl, ?_⟩
      rw [decide_eq_false hc, nI_toInt (by omega)]; rfl
  rcases hk7 with rfl | rfl | rfl | rfl | rfl | rfl | rfl
  · exact ⟨nI t, rfl, by rw [nI_toInt (by omega)]; rfl⟩
  · obtain ⟨x, h1, h2⟩ := qu 5
    exact ⟨x, h1, h2⟩
  · refine ⟨_, (laC d2 : p_La_byKind n 2 d (nI t) (nI (dif a (2 ^ p))) (b2i h) (nI w) = _), ?_⟩
    rw [nI_toInt (by split <;> omega)]
    cases h <;> rfl
  · refine ⟨_, (tiC hp ha d1 d2 : p_Ti_byKind n 8 d (nI t) (nI (dif a (2 ^ p))) (b2i h) (nI w) = _), ?_⟩
    rw [nI_toInt (by split <;> omega)]
    cases nbr p a <;> rfl
  · obtain ⟨x, h1, h2⟩ := qu 3
    exact ⟨x, h1, h2⟩
  · show ∃ x, p_Ca_byKind n 0 d (nI t) (nI (dif a (2 ^ p))) (b2i h) (nI w) = some x ∧ _
    unfold p_Ca_byKind
    rw [laC d2]
    by_cases hc : pop a = 1
    · refine ⟨nI (if h = true then t else t + v), ?_, ?_⟩
      · show ((if nI (dif a (2 ^ p)) = 0 then some _ else _ : Option Int32)).bind _ = _
        rw [if_pos (hal.mpr hc)]; rfl
      · rw [nI_toInt (by split <;> omega), decide_eq_true hc]
        cases h <;> rfl
    · refine ⟨nI (((if h = true then t else t + v) + 1) / 2), ?_, ?_⟩
      · show ((if nI (dif a (2 ^ p)) = 0 then some _ else some ((nI (if h = true then t else t + v) + 1) / 2) : Option Int32)).bind _ = _
        rw [if_neg (fun q => hc (hal.mp q)), nI_1]
        exact congrArg some (pk_div (d := 2) (by split <;> omega) (by omega) (by omega))
      · rw [nI_toInt (by split <;> omega), decide_eq_false hc]
        rfl
  · show ∃ x, p_Tr_byKind n 9 d (nI t) (nI (dif a (2 ^ p))) (b2i h) (nI w) = some x ∧ _
    unfold p_Tr_byKind
    rw [tiC hp ha d1 d2]
    by_cases hc : w = 1
    · refine ⟨nI ((if nbr p a = true then t else t + v) + v), ?_, ?_⟩
      · show ((if nI w = 1 then some (nI (if nbr p a = true then t else t + v) + d 2) else _ : Option Int32)).bind _ = _
        rw [if_pos (by rw [hc]; rfl), d2, nI_add]; rfl
      · rw [nI_toInt (by split <;> omega), decide_eq_true hc]
        cases nbr p a
        · show ((t + v + v : Nat) : Int) = (t : Int) + v + v
          omega
        · show ((t + v : Nat) : Int) = (t : Int) + v
          omega
    · refine ⟨nI (if nbr p a = true then t else t + v), ?_, ?_⟩
      · show ((if nI w = 1 then _ else some _ : Option Int32)).bind _ = _
        rw [if_neg (show ¬ nI (w) = 1 from fun q => hc ((nI_eq (a := w) (b := 1) (by omega) (by omega)).mp q))]; rfl
      · rw [nI_toInt (by split <;> omega), decide_eq_false hc]
        cases nbr p a
        · show ((t + v : Nat) : Int) = (t : Int) + v + 0
          omega
        · show (t : Int) = (t : Int) + 0
          omega
def takenC (n : Nat) (E : PE) (v1 v2 v3 : Int32) (a6 : Nat) (F9 G10 : Nat → Nat → Int32) (P11 : Nat → Nat → Option Nat) (N12 : Nat → Nat) : Option (Int32 × CU) := if eV E a6 = true then if eN E (N12 3) = true then (p_Ni_slowness n (eT E (N12 3)) (eI E (N12 3)) (eR E (N12 3)) (G10 17)).bind fun x15 => (p_Go_goesHeavier n E F9 G10 P11 N12 ((v2 &&& ((1 <<< (v1 &&& 31)) ^^^ (-1)))) (eD E a6 4)).bind fun x18 => (pd_byKind n (eC E a6) (eD E a6) ((eD E a6 3) + x15) ((v2 &&& ((1 <<< (v1 &&& 31)) ^^^ (-1)))) x18 v3).bind fun x20 => (if ((v2 &&& ((1 <<< (v1 &&& 31)) ^^^ (-1))) &&& (F9 3 3)) = 0 then some x20 else some (x20 + (-1)) : Option (Int32)).bind fun x22 => some ((jmax 1 x22), F9, G10, P11, N12) else none else none
theorem takenByC {n m p a w be he : Nat} {E : PE} {F G : Nat → Nat → Int32} {P : Nat → Nat → Option Nat} {N : Nat → Nat} {s : Nat → Int32} {L : List Cls} (hV : GoV E F P N s m L be he) (hB : VB s m) (hm : m ≤ 6) (ha : a < 2 ^ m) (hp : p < m) (hb : bt a p = true) (hw : w ≤ 1) (hn : 1000 ≤ n) :
    ∃ G', p_Go_takenBy n E (nI p) (nI a) (nI w) F G P N = some (nI (tkS s m L p a w), F, G', P, N) ∧ ∀ k, k ≠ 17 → G' k = G k := by
  have ha6 := isS_lt hm ha
  obtain ⟨q, hq1, hq2⟩ := hV.2.2.2.1 p hp
  obtain ⟨G', g1, g2, g3⟩ := layFactsC (G := G) (w := w) hV hm ha hq2 hp (by omega : 20 ≤ n)
  refine ⟨G', ?_, g2⟩
  unfold p_Go_takenBy
  rw [if_neg (nI_pos (by omega)), hV.1, if_pos (nI_lt hp (by omega)), if_pos (nI_in (by omega) (by omega)), nI_clamp (by omega), hq1]
  show (p_Go_layFacts n E q (nI a) (nI w) F G P N).bind _ = _
  rw [g1]
  show takenC n E (nI p) (nI a) (nI w) q F G' P N = _
  obtain ⟨lb, l1, l2, l3⟩ := hV.2.2.1
  obtain ⟨k, v, pc, wt, vk, vv, vp, vw, k6, v9, p1, p30, w9⟩ := hB p hp
  have hNg := hV.2.2.2.2.2.1
  have hsl := slw_le (fcs s p a w) L hNg.1
  have hLl := hNg.2.1
  have e4 : eD E q 4 = s (28 + p) := hq2.2.2.2.2.2.2
  have e3 : eD E q 3 = nI pc := by rw [hq2.2.2.2.2.2.1, vp]
  have e1 : eD E q 1 = nI p := hq2.2.2.2.1
  have e2 : eD E q 2 = nI v := by rw [hq2.2.2.2.2.1, vv]
  have ec : eC E q = clsOf (nI k) := by rw [hq2.2.1, vk]
  obtain ⟨x, hx1, hx2⟩ := kd_ok (n := n) (t := pc + slw (fcs s p a w) L) (h := hv s p a m) k6 v9 (by omega) hw (by omega : p < 6) ha6 hb e1 e2
  unfold takenC
  rw [if_pos hq2.1, if_pos hV.2.2.2.2.1, slowC hNg (by omega), (slw_cg g3 L hNg.1).1, q_oth ha6 (by omega : p < 6), e4, heavyC hV hm ha6 hp (by omega), e3, ec]
  show (pd_byKind n (clsOf (nI k)) (eD E q) (nI pc + nI (slw (fcs s p a w) L)) (nI (dif a (2 ^ p))) (b2i (hv s p a m)) (nI w)).bind _ = _
  rw [nI_add, hx1]
  show ((if (nI (dif a (2 ^ p)) &&& F 3 3) = 0 then some x else some (x + (-1)) : Option Int32)).bind _ = _
  rw [l2]
  have hzb := zk_b (k := k) (v := v) (t := pc + slw (fcs s p a w) L) (h := hv s p a m) (al := decide (pop a = 1)) (nb := nbr p a) (b1 := decide (w = 1)) v9 (by omega)
  have hld := ledC (s := s) hm ha6 hp l1 l3
  have ht : tkS s m L p a w = tkN k v (pc + slw (fcs s p a w) L) (hv s p a m) (ld s p a m) (decide (pop a = 1)) (nbr p a) (decide (w = 1)) := by
    unfold tkS
    rw [vk, vv, vp, nI_clamp (by omega), nI_clamp (by omega), nI_clamp (by omega)]
  rw [ht, ← zk_tk k6]
  cases hc : ld s p a m
  · rw [if_pos (hld.mpr hc)]
    show some (jmax 1 x, F, G', P, N) = _
    rw [fin2 (z := zk k v (pc + slw (fcs s p a w) L) (hv s p a m) (decide (pop a = 1)) (nbr p a) (decide (w = 1)) - (if false = true then 1 else 0)) (by rw [hx2]; simp)]
  · rw [if_neg (fun q => by rw [hld.mp q] at hc; exact absurd hc (by decide))]
    show some (jmax 1 (x + (-1)), F, G', P, N) = _
    have i1 : (x + (-1)).toInt = zk k v (pc + slw (fcs s p a w) L) (hv s p a m) (decide (pop a = 1)) (nbr p a) (decide (w = 1)) + (-1) := i_add hx2 (by decide) (by omega) (by omega) (by omega) (by omega)
    rw [fin2 i1]
    rfl
