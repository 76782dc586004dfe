/-! ===== step: rule, the goings ===== -/
def Lq (I I' : Nat → Int32) (R R' : Nat → Nat → Int32) : Prop := (∀ q, q ≠ 11 → q ≠ 12 → q ≠ 17 → q ≠ 18 → I' q = I q) ∧ ∀ q, q ≠ 9 → q ≠ 10 → R' q = R q
theorem Lq.trans {I I1 I2 : Nat → Int32} {R R1 R2 : Nat → Nat → Int32} (h1 : Lq I I1 R R1) (h2 : Lq I1 I2 R1 R2) : Lq I I2 R R2 := ⟨fun q a b c d => (h2.1 q a b c d).trans (h1.1 q a b c d), fun q a b => (h2.2 q a b).trans (h1.2 q a b)⟩
theorem Lk.q {I I1 : Nat → Int32} {R R1 : Nat → Nat → Int32} (h1 : Lk I I1 R R1) : Lq I I1 R R1 := ⟨fun q a b _ _ => h1.1 q a b, h1.2⟩
def ro (ok : Bool) (x : Nat) : Int32 := cond ok (nI x) (-5)
theorem ro_5 {ok : Bool} {x : Nat} (hx : x < 2 ^ 31) : ro ok x = (-5) ↔ ok = false := by
  cases ok
  · exact ⟨fun _ => rfl, fun _ => rfl⟩
  · refine ⟨fun e => ?_, fun e => absurd e (by decide)⟩
    have e' : nI x = (-5) := e
    exact absurd (show nI x < 0 by rw [e']; decide) (nI_pos hx)
theorem all_a {m a : Nat} (hm : m ≤ 6) (ha : a < 2 ^ m) : dif (2 ^ m - 1) a = 0 ↔ a = 2 ^ m - 1 := by
  have h64 := q_p2 m (by omega)
  rw [dif0 (by omega), Nat.and_two_pow_sub_one_eq_mod, Nat.mod_eq_of_lt ha]
theorem by_eq {n : Nat} {E : PE} {F G : Nat → Nat → Int32} {P : Nat → Nat → Option Nat} {N : Nat → Nat} {v1 : Int32} (v3 : Int32) (k : Nat) {v4 v5 v6 v7 : Int32} : l_Go_byRule_16 n E F G P N v1 v3 (k + 1) v4 v5 v6 v7 = (if 40 < v7 then some (-5) else (if ((F 3 2) &&& (v4 ^^^ (-1))) = 0 then (if v3 = 0 then some v6 else some v7) else (if v5 = 1 then (p_Go_quickestOf n E F G P N v4).bind fun x6 => some x6 else (p_Go_overByRule n E F G P N v1 (((F 3 2) &&& (v4 ^^^ (-1))))).bind fun x4 => some x4 : Option (Int32)).bind fun x2 => (if x2 = 0 then some (-5) else (p_Go_canBe n E F G P N x2 v5).bind fun x8 => (if x8 = 0 then some (-5) else (p_Go_minutesOf n E F G P N x2 v5).bind fun x10 => l_Go_byRule_16 n E F G P N v1 v3 k (v4 ^^^ x2) (1 - v5) (v6 + x10) (v7 + 1))))) := rfl
theorem runR {n m rule be he oi : Nat} {E : PE} {F G : Nat → Nat → Int32} {P : Nat → Nat → Option Nat} {N : Nat → Nat} {s : Nat → Int32} {L : List Cls} (hn : 1000 ≤ n) (hV : GoV E F P N s m L be he) (hT : TbV G s m L be he) (hL : NgM s L) (hTl : tlM s be he oi) (hm : m ≤ 6) (h0 : s 0 = nI m) (hB : VB s m) (hr : rule ≤ 2) :
    ∀ (c j a w x kc kd km : Nat) (I2 : Nat → Int32) (R2 : Nat → Nat → Int32), 40 - j = c → j ≤ 40 → c + 1 < kc → c + 1 < kd → c + 1 < km → a < 2 ^ m → w ≤ 1 → x ≤ j * 1050 → R2 1 = s → I2 17 = nI x → I2 18 = nI j →
    ∃ (ok : Bool) (X J : Nat) (I3 : Nat → Int32) (R3 : Nat → Nat → Int32), X ≤ 42000 ∧ J ≤ 40 ∧ l_Go_byRule_16 n E F G P N (nI rule) 0 kc (nI a) (nI w) (nI x) (nI j) = some (ro ok X) ∧ l_Go_byRule_16 n E F G P N (nI rule) 1 kd (nI a) (nI w) (nI x) (nI j) = some (ro ok J) ∧ l_Md_goesByRule_26 n (nI rule) km (nI a) (nI w) I2 R2 = some (b2i ok, I3, R3) ∧ (ok = true → I3 17 = nI X ∧ I3 18 = nI J) ∧ Lq I2 I3 R2 R3 := by
  intro c
  have h64 := q_p2 m (by omega)
  induction c with
  | zero =>
    intro j a w x kc kd km I2 R2 hc hj h1 h2 h3 ha hw hx es i17 i18
    have ej : j = 40 := by omega
    subst ej
    obtain ⟨kc, rfl⟩ : ∃ y, kc = y + 1 + 1 := ⟨kc - 2, by omega⟩
    obtain ⟨kd, rfl⟩ : ∃ y, kd = y + 1 + 1 := ⟨kd - 2, by omega⟩
    obtain ⟨km, rfl⟩ : ∃ y, km = y + 1 := ⟨km - 1, by omega⟩
    have hR0 : R2 1 0 = nI m := by rw [es, h0]
    have hdl : dif (2 ^ m - 1) a < 64 := Nat.lt_of_le_of_lt dif_le (by omega)
    rw [by_eq 0 (kc + 1), by_eq 1 (kd + 1), l_Md_goesByRule_26, q_Mall hm hR0, Option.bind_some, if_neg (show ¬ (40 : Int32) < nI 40 by decide), if_neg (show ¬ (40 : Int32) < nI 40 by decide), hV.2.1, q_dif _ (by omega) _ (by omega)]
    by_cases hall : a = 2 ^ m - 1
    · rw [(all_a hm ha).mpr hall, if_pos (show nI 0 = 0 from rfl), if_pos (show nI 0 = 0 from rfl), if_pos (show nI a = nI (2 ^ m - 1) by rw [hall])]
      exact ⟨true, x, 40, I2, R2, by omega, by omega, rfl, rfl, rfl, fun _ => ⟨i17, i18⟩, ⟨fun _ _ _ _ _ => rfl, fun _ _ _ => rfl⟩⟩
    · have hnz : ¬ dif (2 ^ m - 1) a = 0 := fun q => hall ((all_a hm ha).mp q)
      rw [if_neg (show ¬ nI (dif (2 ^ m - 1) a) = 0 from nI_ne0 (by omega) (by omega)), if_neg (show ¬ nI (dif (2 ^ m - 1) a) = 0 from nI_ne0 (by omega) (by omega)), if_neg (show ¬ nI a = nI (2 ^ m - 1) from fun q => hall ((nI_eq (by omega) (by omega)).mp q))]
      obtain ⟨g, hg, eg1, eg2⟩ : ∃ g, g < 2 ^ m ∧ (if nI w = 1 then (p_Go_quickestOf n E F G P N (nI a)).bind fun x6 => some x6 else (p_Go_overByRule n E F G P N (nI rule) (nI (dif (2 ^ m - 1) a))).bind fun x4 => some x4 : Option Int32) = some (nI g) ∧ (if nI w = 1 then (p_Md_endOf n (nI a) 1 I2 R2).bind fun x10 => some x10 else (some (nI (2 ^ m - 1))).bind fun x6 => (p_Md_goesBy n (nI rule) (x6 &&& (nI a ^^^ (-1))) I2 R2).bind fun x8 => some x8 : Option Int32) = some (nI g) := by
        rcases (by omega : w = 0 ∨ w = 1) with rfl | rfl
        · refine ⟨oBR (pcs s) m rule (dif (2 ^ m - 1) a), oBR_lt hm (Nat.lt_of_le_of_lt dif_le (by omega)), ?_, ?_⟩
          · rw [if_neg (show ¬ nI 0 = 1 by decide), oBC hV hB hm (Nat.lt_of_le_of_lt dif_le (by omega)) hr hn]; rfl
          · rw [if_neg (show ¬ nI 0 = 1 by decide), Option.bind_some, q_dif _ (by omega) _ (by omega), oBM hR0 (by rw [es]; exact hB) hm (Nat.lt_of_le_of_lt dif_le (by omega)) hr hn, es]; rfl
        · refine ⟨endE (pcs s) true a m, endE_lt, ?_, ?_⟩
          · rw [if_pos (show nI 1 = 1 from rfl), show p_Go_quickestOf n E F G P N (nI a) = some (nI (endE (pcs s) true a m)) from enC (qk := true) hV hB hm (by omega) hn]; rfl
          · rw [if_pos (show nI 1 = 1 from rfl), show p_Md_endOf n (nI a) 1 I2 R2 = some (nI (endE (pcs (R2 1)) true a m)) from enM (qk := true) hR0 (by rw [es]; exact hB) hm (by omega) hn, es]; rfl
      rw [eg1, eg2, Option.bind_some, Option.bind_some, Option.bind_some]
      by_cases hg0 : g = 0
      · subst hg0
        rw [if_pos (show nI 0 = 0 from rfl), if_pos (show nI 0 = 0 from rfl), if_pos (show nI 0 = 0 from rfl)]
        exact ⟨false, 0, 0, I2, R2, by omega, by omega, rfl, rfl, rfl, fun h => absurd h (by decide), ⟨fun _ _ _ _ _ => rfl, fun _ _ _ => rfl⟩⟩
      · have hgn : ¬ nI g = 0 := nI_ne0 (by omega) (by omega)
        obtain ⟨I3, R3, c1, c2⟩ := canM (n := n) (w := w) (I := I2) hn hL hTl es hm h0 hB hg
        rw [if_neg hgn, if_neg hgn, if_neg hgn, canBeC (Tb_W hT) hm (by omega) hg hw, c1, Option.bind_some, Option.bind_some, Option.bind_some]
        dsimp only
        refine ⟨false, 0, 0, I3, R3, by omega, by omega, ?_, ?_, ?_, fun h => absurd h (by decide), c2.q⟩
        · cases cnS s m L be he g w
          · rfl
          · rw [if_neg (show ¬ b2i true = 0 by decide), minOfC (Tb_W hT) hm (by omega) hg hw, Option.bind_some, by_eq, nI_1, if_pos (show (40 : Int32) < nI (40 + 1) by decide)]; rfl
        · cases cnS s m L be he g w
          · rfl
          · rw [if_neg (show ¬ b2i true = 0 by decide), minOfC (Tb_W hT) hm (by omega) hg hw, Option.bind_some, by_eq, nI_1, if_pos (show (40 : Int32) < nI (40 + 1) by decide)]; rfl
        · cases cnS s m L be he g w
          · rfl
          · rw [if_neg (show ¬ b2i true = 0 by decide), if_pos (show I3 18 = 40 by rw [c2.1 18 (by decide) (by decide), i18]; rfl)]; rfl
  | succ c ih =>
    intro j a w x kc kd km I2 R2 hc hj h1 h2 h3 ha hw hx es i17 i18
    obtain ⟨kc, rfl⟩ : ∃ y, kc = y + 1 := ⟨kc - 1, by omega⟩
    obtain ⟨kd, rfl⟩ : ∃ y, kd = y + 1 := ⟨kd - 1, by omega⟩
    obtain ⟨km, rfl⟩ : ∃ y, km = y + 1 := ⟨km - 1, by omega⟩
    have hR0 : R2 1 0 = nI m := by rw [es, h0]
    have hdl : dif (2 ^ m - 1) a < 64 := Nat.lt_of_le_of_lt dif_le (by omega)
    have hj40 : ¬ (40 : Int32) < nI j := nI_nlt (a := 40) (by omega) (by omega)
    have hjx : j * 1050 ≤ 40 * 1050 := Nat.mul_le_mul_right _ hj
    rw [by_eq 0 kc, by_eq 1 kd, l_Md_goesByRule_26, q_Mall hm hR0, Option.bind_some, if_neg hj40, if_neg hj40, hV.2.1, q_dif _ (by omega) _ (by omega)]
    by_cases hall : a = 2 ^ m - 1
    · rw [(all_a hm ha).mpr hall, if_pos (show nI 0 = 0 from rfl), if_pos (show nI 0 = 0 from rfl), if_pos (show nI a = nI (2 ^ m - 1) by rw [hall])]
      exact ⟨true, x, j, I2, R2, by omega, by omega, rfl, rfl, rfl, fun _ => ⟨i17, i18⟩, ⟨fun _ _ _ _ _ => rfl, fun _ _ _ => rfl⟩⟩
    · have hnz : ¬ dif (2 ^ m - 1) a = 0 := fun q => hall ((all_a hm ha).mp q)
      rw [if_neg (show ¬ nI (dif (2 ^ m - 1) a) = 0 from nI_ne0 (by omega) (by omega)), if_neg (show ¬ nI (dif (2 ^ m - 1) a) = 0 from nI_ne0 (by omega) (by omega)), if_neg (show ¬ nI a = nI (2 ^ m - 1) from fun q => hall ((nI_eq (by omega) (by omega)).mp q))]
      obtain ⟨g, hg, eg1, eg2⟩ : ∃ g, g < 2 ^ m ∧ (if nI w = 1 then (p_Go_quickestOf n E F G P N (nI a)).bind fun x6 => some x6 else (p_Go_overByRule n E F G P N (nI rule) (nI (dif (2 ^ m - 1) a))).bind fun x4 => some x4 : Option Int32) = some (nI g) ∧ (if nI w = 1 then (p_Md_endOf n (nI a) 1 I2 R2).bind fun x10 => some x10 else (some (nI (2 ^ m - 1))).bind fun x6 => (p_Md_goesBy n (nI rule) (x6 &&& (nI a ^^^ (-1))) I2 R2).bind fun x8 => some x8 : Option Int32) = some (nI g) := by
        rcases (by omega : w = 0 ∨ w = 1) with rfl | rfl
        · refine ⟨oBR (pcs s) m rule (dif (2 ^ m - 1) a), oBR_lt hm (Nat.lt_of_le_of_lt dif_le (by omega)), ?_, ?_⟩
          · rw [if_neg (show ¬ nI 0 = 1 by decide), oBC hV hB hm (Nat.lt_of_le_of_lt dif_le (by omega)) hr hn]; rfl
          · rw [if_neg (show ¬ nI 0 = 1 by decide), Option.bind_some, q_dif _ (by omega) _ (by omega), oBM hR0 (by rw [es]; exact hB) hm (Nat.lt_of_le_of_lt dif_le (by omega)) hr hn, es]; rfl
        · refine ⟨endE (pcs s) true a m, endE_lt, ?_, ?_⟩
          · rw [if_pos (show nI 1 = 1 from rfl), show p_Go_quickestOf n E F G P N (nI a) = some (nI (endE (pcs s) true a m)) from enC (qk := true) hV hB hm (by omega) hn]; rfl
          · rw [if_pos (show nI 1 = 1 from rfl), show p_Md_endOf n (nI a) 1 I2 R2 = some (nI (endE (pcs (R2 1)) true a m)) from enM (qk := true) hR0 (by rw [es]; exact hB) hm (by omega) hn, es]; rfl
      rw [eg1, eg2, Option.bind_some, Option.bind_some, Option.bind_some]
      by_cases hg0 : g = 0
      · subst hg0
        rw [if_pos (show nI 0 = 0 from rfl), if_pos (show nI 0 = 0 from rfl), if_pos (show nI 0 = 0 from rfl)]
        exact ⟨false, 0, 0, I2, R2, by omega, by omega, rfl, rfl, rfl, fun h => absurd h (by decide), ⟨fun _ _ _ _ _ => rfl, fun _ _ _ => rfl⟩⟩
      · have hgn : ¬ nI g = 0 := nI_ne0 (by omega) (by omega)
        obtain ⟨I3, R3, c1, c2⟩ := canM (n := n) (w := w) (I := I2) hn hL hTl es hm h0 hB hg
        have es3 : R3 1 = s := by rw [c2.2 1 (by decide) (by decide), es]
        rw [if_neg hgn, if_neg hgn, if_neg hgn, canBeC (Tb_W hT) hm (by omega) hg hw, c1, Option.bind_some, Option.bind_some, Option.bind_some]
        dsimp only
        cases hcn : cnS s m L be he g w
        · exact ⟨false, 0, 0, I3, R3, by omega, by omega, rfl, rfl, rfl, fun h => absurd h (by decide), c2.q⟩
        · obtain ⟨I4, R4, d1, d2⟩ := minutesM (n := n) (w := w) (I := I3) hn hL es3 hm h0 hB hg hw
          have es4 : R4 1 = s := by rw [d2.2 1 (by decide) (by decide), es3]
          have hmb := mnS_le (a := g) (w := w) hB hL.1 hL.2.1
          have e18 : I3 18 = nI j := by rw [c2.1 18 (by decide) (by decide), i18]
          have e17 : I3 17 = nI x := by rw [c2.1 17 (by decide) (by decide), i17]
          have e184 : I4 18 = nI j := by rw [d2.1 18 (by decide) (by decide), e18]
          rw [if_neg (show ¬ b2i true = 0 by decide), if_neg (show ¬ b2i true = 0 by decide), if_neg (show ¬ b2i true = 0 by decide), minOfC (Tb_W hT) hm (by omega) hg hw, d1, Option.bind_some, Option.bind_some, Option.bind_some, e18, if_neg (show ¬ nI j = 40 from fun q => by have := (nI_eq (a := j) (b := 40) (by omega) (by omega)).mp q; omega)]
          dsimp only
          rw [e17, nI_add, pk_un (show (18 : Nat) ≠ 17 by decide), e184, nI_1, q_xor a (by omega) g (by omega), q_1w hw]
          have hx2 : x + mnS s m L g w ≤ (j + 1) * 1050 := by rw [Nat.succ_mul]; omega
          obtain ⟨ok, X, J, I5, R5, f1, f2, f3, f4, f5, f6, f7⟩ := ih (j + 1) (a ^^^ g) (1 - w) (x + mnS s m L g w) kc kd km (upd (upd I4 17 (nI (x + mnS s m L g w))) 18 (nI (j + 1))) R4 (by omega) (by omega) (by omega) (by omega) (by omega) (Nat.xor_lt_two_pow ha hg) (by omega) hx2 es4 (by rw [pk_un (by decide), pk_us]) pk_us
          refine ⟨ok, X, J, I5, R5, f1, f2, f3, f4, f5, f6, (c2.q.trans d2.q).trans ⟨fun q q1 q2 q3 q4 => ?_, f7.2⟩⟩
          rw [f7.1 q q1 q2 q3 q4, pk_un q4, pk_un q3]
theorem ruleBoth {n m k r b t w a rule be he oi : Nat} {E : PE} {F G : Nat → Nat → Int32} {P : Nat → Nat → Option Nat} {N : Nat → Nat} {I : Nat → Int32} {R : Nat → Nat → Int32} {L : List Cls} (hn : 300000000 ≤ n) (h : RLp E F G P N I R m k r b t w a L be he oi) (hV : GoV E F P N (R 1) m L be he) (hT : TbV G (R 1) m L be he) (hr : rule ≤ 2) :
    ∃ (ok : Bool) (X J : Nat) (I3 : Nat → Int32) (R3 : Nat → Nat → Int32), X ≤ 42000 ∧ J ≤ 40 ∧ p_Go_byRule n E F G P N (nI rule) (nI (2 * a + w)) 0 = some (ro ok X) ∧ p_Go_byRule n E F G P N (nI rule) (nI (2 * a + w)) 1 = some (ro ok J) ∧ p_Md_goesByRule n (nI rule) I R = some (b2i ok, I3, R3) ∧ (ok = true → I3 17 = nI X ∧ I3 18 = nI J) ∧ RLp E F G P N I3 R3 m k r b t w a L be he oi ∧ R3 1 = R 1 := by
  obtain ⟨hm, h0, hB, hL, hTl⟩ := SR_go h.1
  have h64 := q_p2 m (by omega)
  obtain ⟨⟨n1, n2, n3, n4, n5, n6, n7⟩, -, -, -, -, -, ⟨q8, f7⟩, ⟨q9, f6⟩, -, -⟩ := h.1.1
  obtain ⟨ok, X, J, I3, R3, f1, f2, f3, f4, f5, f6', f7'⟩ := runR (n := n) (by omega) hV hT hL hTl hm h0 hB hr 40 0 a w 0 n n n (upd (upd I 17 0) 18 0) R (by omega) (by omega) (by omega) (by omega) (by omega) n7 n6 (by omega) rfl (by rw [pk_un (by decide), pk_us]; rfl) (by rw [pk_us]; rfl)
  have hI : ∀ q, q ≠ 11 → q ≠ 12 → q ≠ 17 → q ≠ 18 → I3 q = I q := fun q q1 q2 q3 q4 => by rw [f7'.1 q q1 q2 q3 q4, pk_un q4, pk_un q3]
  refine ⟨ok, X, J, I3, R3, f1, f2, ?_, ?_, ?_, f6', RLp_M h (hI 3 (by decide) (by decide) (by decide) (by decide)) (hI 20 (by decide) (by decide) (by decide) (by decide)) (f7'.2 1 (by decide) (by decide)) (f7'.2 2 (by decide) (by decide)) (f7'.2 19 (by decide) (by decide)), f7'.2 1 (by decide) (by decide)⟩
  · unfold p_Go_byRule
    rw [q_ph _ (by omega), q_pa _ (by omega), show (2 * a + w) / 2 = a by omega, show (2 * a + w) % 2 = w by omega]
    exact f3
  · unfold p_Go_byRule
    rw [q_ph _ (by omega), q_pa _ (by omega), show (2 * a + w) / 2 = a by omega, show (2 * a + w) % 2 = w by omega]
    exact f4
  · unfold p_Md_goesByRule
    rw [q9, q8]
    exact f5
theorem bestBoth {n m k r b t w a be he oi : Nat} {E : PE} {F G : Nat → Nat → Int32} {P : Nat → Nat → Option Nat} {N : Nat → Nat} {I : Nat → Int32} {R : Nat → Nat → Int32} {L : List Cls} (hn : 300000000 ≤ n) (h : RLp E F G P N I R m k r b t w a L be he oi) (hV : GoV E F P N (R 1) m L be he) (hT : TbV G (R 1) m L be he) :
    ∃ (I3 : Nat → Int32) (R3 : Nat → Nat → Int32) (bm : Int32) (bc : Nat), bc ≤ 2 ∧ p_Go_bestRule n E F G P N (nI (2 * a + w)) = some (nI bc) ∧ p_Md_bestRule n I R = some (bm, I3, R3) ∧ (bm = nI bc ∨ (bm = (-1) ∧ p_Go_byRule n E F G P N (nI bc) (nI (2 * a + w)) 0 = some (-5) ∧ p_Go_byRule n E F G P N (nI bc) (nI (2 * a + w)) 1 = some (-5))) ∧ RLp E F G P N I3 R3 m k r b t w a L be he oi ∧ R3 1 = R 1 := by
  have main : ∀ (c i kc km : Nat) (I2 : Nat → Int32) (R2 : Nat → Nat → Int32) (bc : Nat) (bm fc lm : Int32), 3 - i = c → i ≤ 3 → c < kc → c < km → RLp E F G P N I2 R2 m k r b t w a L be he oi → R2 1 = R 1 → bc ≤ 2 → ((bm = (-1) ∧ bc = 0 ∧ fc = (-5) ∧ lm = 1000000 ∧ (0 < i → p_Go_byRule n E F G P N (nI 0) (nI (2 * a + w)) 0 = some (-5) ∧ p_Go_byRule n E F G P N (nI 0) (nI (2 * a + w)) 1 = some (-5))) ∨ (bm = nI bc ∧ ∃ X, X ≤ 42000 ∧ fc = nI X ∧ lm = nI X)) →
      ∃ (I3 : Nat → Int32) (R3 : Nat → Nat → Int32) (bm' : Int32) (bc' : Nat), bc' ≤ 2 ∧ l_Go_bestRule_8 n E F G P N (nI (2 * a + w)) kc (nI bc) fc (nI i) = some (nI bc') ∧ l_Md_bestRule_7 n km bm lm (nI i) I2 R2 = some (bm', I3, R3) ∧ (bm' = nI bc' ∨ (bm' = (-1) ∧ p_Go_byRule n E F G P N (nI bc') (nI (2 * a + w)) 0 = some (-5) ∧ p_Go_byRule n E F G P N (nI bc') (nI (2 * a + w)) 1 = some (-5))) ∧ RLp E F G P N I3 R3 m k r b t w a L be he oi ∧ R3 1 = R 1 := by
    intro c
    induction c with
    | zero =>
      intro i kc km I2 R2 bc bm fc lm hc hi h1 h2 h3 h4 h5 h6
      obtain ⟨kc, rfl⟩ : ∃ y, kc = y + 1 := ⟨kc - 1, by omega⟩
      obtain ⟨km, rfl⟩ : ∃ y, km = y + 1 := ⟨km - 1, by omega⟩
      have ei : i = 3 := by omega
      subst ei
      rw [l_Go_bestRule_8, l_Md_bestRule_7, if_pos (show (3 : Int32) ≤ nI 3 by decide), if_pos (show (3 : Int32) ≤ nI 3 by decide)]
      refine ⟨I2, R2, bm, bc, h5, rfl, rfl, ?_, h3, h4⟩
      rcases h6 with ⟨e1, e2, e3, e4, e5⟩ | ⟨e1, -⟩
      · subst e2
        exact Or.inr ⟨e1, e5 (by omega)⟩
      · exact Or.inl e1
    | succ c ih =>
      intro i kc km I2 R2 bc bm fc lm hc hi h1 h2 h3 h4 h5
      obtain ⟨kc, rfl⟩ : ∃ y, kc = y + 1 := ⟨kc - 1, by omega⟩
      obtain ⟨km, rfl⟩ : ∃ y, km = y + 1 := ⟨km - 1, by omega⟩
      have hA : 3 - (i + 1) = c := by omega
      have hB' : i + 1 ≤ 3 := by omega
      have hC : c < kc := by omega
      have hD : c < km := by omega
      have hi2 : i ≤ 2 := by omega
      have hi3 : ¬ (3 : Int32) ≤ nI i := nI_ge (b := 3) (by omega) (by omega)
      intro h6
      obtain ⟨ok, X, J, I3, R3, f1, f2, f3, f4, f5, f6, f7, f8⟩ := ruleBoth (rule := i) hn h3 (by rw [h4]; exact hV) (by rw [h4]; exact hT) hi2
      rw [l_Go_bestRule_8, l_Md_bestRule_7, if_neg hi3, if_neg hi3, f3, f5, Option.bind_some, Option.bind_some, nI_1]
      dsimp only
      cases ok
      · obtain ⟨I4, R4, bm', bc', g1, g2, g3, g4, g5, g6⟩ := ih (i + 1) kc km I3 R3 bc bm fc lm hA hB' hC hD f7 (by rw [f8, h4]) h5 (by
          rcases h6 with ⟨e1, e2, e3, e4, e5⟩ | e
          · refine Or.inl ⟨e1, e2, e3, e4, fun _ => ?_⟩
            by_cases h0i : i = 0
            · subst h0i; exact ⟨f3, f4⟩
            · exact e5 (by omega)
          · exact Or.inr e)
        exact ⟨I4, R4, bm', bc', g1, g2, g3, g4, g5, g6⟩
      · obtain ⟨e17, e18⟩ := f6 rfl
        have hX5 : ¬ ro true X = (-5) := fun q => absurd ((ro_5 (by omega)).mp q) (by decide)
        rw [if_neg hX5, if_neg (show ¬ b2i true = 0 by decide), e17]
        rcases h6 with ⟨e1, e2, e3, e4, e5⟩ | ⟨e1, Y, e2, e3, e4⟩
        · obtain ⟨I4, R4, bm', bc', g1, g2, g3, g4, g5, g6⟩ := ih (i + 1) kc km I3 R3 i (nI i) (nI X) (nI X) hA hB' hC hD f7 (by rw [f8, h4]) hi2 (Or.inr ⟨rfl, X, f1, rfl, rfl⟩)
          refine ⟨I4, R4, bm', bc', g1, ?_, ?_, g4, g5, g6⟩
          · rw [if_pos e3]; exact g2
          · rw [e4, if_neg (show ¬ (1000000 : Int32) ≤ nI X from nI_ge (b := 1000000) (by omega) (by omega)), Option.bind_some, if_neg (show ¬ (1 : Int32) = 0 by decide), Option.bind_some, if_neg (show ¬ (1 : Int32) = 0 by decide), Option.bind_some]
            exact g3
        · have hfc5 : ¬ fc = (-5) := fun q => nI_pos (n := Y) (by omega) (by rw [← e3, q]; decide)
          rw [if_neg hfc5, e3, e4]
          by_cases hle : Y ≤ X
          · obtain ⟨I4, R4, bm', bc', g1, g2, g3, g4, g5, g6⟩ := ih (i + 1) kc km I3 R3 bc bm (nI Y) (nI Y) hA hB' hC hD f7 (by rw [f8, h4]) h5 (Or.inr ⟨e1, Y, e2, rfl, rfl⟩)
            refine ⟨I4, R4, bm', bc', g1, ?_, ?_, g4, g5, g6⟩
            · rw [if_pos (show nI Y ≤ ro true X from nI_le hle (by omega))]; exact g2
            · rw [if_pos (nI_le hle (by omega)), Option.bind_some, if_pos rfl, Option.bind_some, if_pos rfl, Option.bind_some]
              exact g3
          · obtain ⟨I4, R4, bm', bc', g1, g2, g3, g4, g5, g6⟩ := ih (i + 1) kc km I3 R3 i (nI i) (nI X) (nI X) hA hB' hC hD f7 (by rw [f8, h4]) hi2 (Or.inr ⟨rfl, X, f1, rfl, rfl⟩)
            refine ⟨I4, R4, bm', bc', g1, ?_, ?_, g4, g5, g6⟩
            · rw [if_neg (show ¬ nI Y ≤ ro true X from nI_ge (by omega) (by omega))]; exact g2
            · rw [if_neg (nI_ge (by omega) (by omega)), Option.bind_some, if_neg (show ¬ (1 : Int32) = 0 by decide), Option.bind_some, if_neg (show ¬ (1 : Int32) = 0 by decide), Option.bind_some]
              exact g3
  obtain ⟨I3, R3, bm, bc, g1, g2, g3, g4, g5, g6⟩ := main 3 0 n n I R 0 (-1) (-5) 1000000 (by omega) (by omega) (by omega) (by omega) h rfl (by omega) (Or.inl ⟨rfl, rfl, rfl, rfl, fun q => by omega⟩)
  refine ⟨I3, R3, bm, bc, g1, ?_, ?_, g4, g5, g6⟩
  · unfold p_Go_bestRule
    rw [show l_Go_bestRule_8 n E F G P N (nI (2 * a + w)) n 0 (-5) 0 = some (nI bc) from g2]; rfl
  · unfold p_Md_bestRule
    rw [show l_Md_bestRule_7 n n (-1) 1000000 0 I R = some (bm, I3, R3) from g3]; rfl
theorem st_rule {n : Nat} {v1 v2 : Int32} {E : PE} {F G : Nat → Nat → Int32} {P : Nat → Nat → Option Nat} {N : Nat → Nat} {I : Nat → Int32} {R : Nat → Nat → Int32} (hn : 300000000 ≤ n) (h : RL E F G P N I R) : OKi E (p_LB_rule n E v1 v2 F G P N) (p_Md_rule n v1 v2 I R) := by
  have h' := h
  obtain ⟨m, k, r, b, t, w, a, L, be, he, oi, h⟩ := h
  obtain ⟨hm, h0, hB, hL, hTl⟩ := SR_go h.1
  have h64 := q_p2 m (by omega)
  unfold p_LB_rule p_Md_rule
  rcases inR (n := n) (x := v1) (c := 3) (C := 3) (by omega) rfl with ⟨i1, i2⟩ | ⟨i1, i2, i3, i4⟩ | ⟨y, hy, rfl, i2, i3, i4, i5⟩
  · rw [if_pos i1, i2]; exact ⟨-1, F, G, P, N, I, R, rfl, rfl, h'⟩
  · rw [if_neg i1, if_pos i2, i4]; exact ⟨-1, F, G, P, N, I, R, rfl, rfl, h'⟩
  · rw [if_neg i3, if_neg i5, i2, Option.bind_some, if_neg (show ¬ (1 : Int32) = 0 by decide)]
    rcases inR (n := n) (x := v2) (c := 2) (C := 2) (by omega) rfl with ⟨j1, j2⟩ | ⟨j1, j2, j3, j4⟩ | ⟨z, hz, rfl, j2, j3, j4, j5⟩
    · rw [if_pos j1, j2]; exact ⟨-1, F, G, P, N, I, R, rfl, rfl, h'⟩
    · rw [if_neg j1, if_neg j3, j4]; exact ⟨-1, F, G, P, N, I, R, rfl, rfl, h'⟩
    · rw [if_neg j3, if_pos j4, j2, Option.bind_some, if_neg (show ¬ (1 : Int32) = 0 by decide)]
      obtain ⟨F1, G1, P1, N1, a1, a2, a3, a4, a5, a6, a7⟩ := refreshC (n := n) h (by omega)
      obtain ⟨⟨n1, n2, n3, n4, n5, n6, n7⟩, ⟨q0, f5⟩, -, -, -, -, ⟨q8, f7⟩, ⟨q9, f6⟩, -, -⟩ := h.1.1
      rw [a1, Option.bind_some]
      dsimp only
      rw [placeC (by rw [a3]; exact f6) (by rw [a3]; exact f7) (by omega) n6, Option.bind_some]
      have fin : ∀ (bc : Nat) (I2 : Nat → Int32) (R2 : Nat → Nat → Int32), bc ≤ 2 → RLp E F1 G1 P1 N1 I2 R2 m k r b t w a L be he oi → R2 1 = R 1 → OKi E (if nI z = 1 then (p_Go_byRule n E F1 G1 P1 N1 (nI bc) (nI (2 * a + w)) 1).bind fun x26 => some (x26, F1, G1, P1, N1) else (p_Go_byRule n E F1 G1 P1 N1 (nI bc) (nI (2 * a + w)) 0).bind fun x14 => (if nI z = 0 then some (x14, F1, G1, P1, N1) else (if x14 = (-5) then some (x14, F1, G1, P1, N1) else (p_St_everybody n E F1 G1 P1 N1 ).bind fun x16 => (p_LB_leastFor n E x16 0 F1 G1 P1 N1).bind fun (x18, F19, G20, P21, N22) => (if x18 = (-5) then some (-5) else some (x14 - x18) : Option (Int32)).bind fun x24 => some (x24, F19, G20, P21, N22)))) ((p_Md_goesByRule n (nI bc) I2 R2).bind fun (x16, I14, R15) => (if x16 = 0 then some ((-5), I14, R15) else (if 2 ≤ nI z then (p_Md_now n I14 R15).bind fun x18 => (p_Md_all n I14 R15).bind fun x20 => (p_Md_leastFrom n x18 x20 (-1) I14 R15).bind fun (x24, I22, R23) => (if x24 = 1000000 then some (-5) else some ((I22 17) - x24) : Option (Int32)).bind fun x26 => some (x26, I22, R23) else (if nI z = 0 then some (I14 17) else some (I14 18) : Option (Int32)).bind fun x28 => some (x28, I14, R15)))) := by
        intro bc I2 R2 hbc hRL es
        obtain ⟨ok, X, J, I3, R3, g1, g2, g3, g4, g5, g6, g7, g8⟩ := ruleBoth (rule := bc) hn hRL (by rw [es]; exact a4) (by rw [es]; exact a5) hbc
        rw [g3, g4, g5, Option.bind_some, Option.bind_some, Option.bind_some]
        dsimp only
        cases ok
        · refine ⟨-5, F1, G1, P1, N1, I3, R3, ?_, rfl, g7.rl⟩
          by_cases hz1 : nI z = 1
          · rw [if_pos hz1]; rfl
          · rw [if_neg hz1]
            by_cases hz0 : nI z = 0
            · rw [if_pos hz0]; rfl
            · rw [if_neg hz0, if_pos (show ro false X = (-5) from rfl)]; rfl
        · obtain ⟨e17, e18⟩ := g6 rfl
          rw [if_neg (show ¬ b2i true = 0 by decide), e17, e18]
          have hX5 : ¬ ro true X = (-5) := fun q => absurd ((ro_5 (by omega)).mp q) (by decide)
          rcases (by omega : z = 0 ∨ z = 1 ∨ z = 2) with rfl | rfl | rfl
          · rw [if_neg (show ¬ nI 0 = 1 by decide), if_pos (show nI 0 = 0 from rfl), if_neg (show ¬ (2 : Int32) ≤ nI 0 by decide), if_pos (show nI 0 = 0 from rfl)]
            exact ⟨nI X, F1, G1, P1, N1, I3, R3, rfl, rfl, g7.rl⟩
          · rw [if_pos (show nI 1 = 1 from rfl), if_neg (show ¬ (2 : Int32) ≤ nI 1 by decide), if_neg (show ¬ nI 1 = 0 by decide)]
            exact ⟨nI J, F1, G1, P1, N1, I3, R3, rfl, rfl, g7.rl⟩
          · have er3 : R3 1 = R 1 := by rw [g8, es]
            have hR0 : R3 1 0 = nI m := by rw [er3]; exact q0
            rw [if_neg (show ¬ nI 2 = 1 by decide), if_neg (show ¬ nI 2 = 0 by decide), if_neg hX5, if_pos (show (2 : Int32) ≤ nI 2 by decide), q_Ceb hm (by rw [a3]; exact f5), nowM (by rw [er3]; exact q9) (by rw [er3]; exact q8), Option.bind_some, Option.bind_some, q_Mall hm hR0, Option.bind_some]
            obtain ⟨v, G2, I4, R4, l1, l2, l3, l4, l5, l6, l7, l8, l9⟩ := leastBoth (g := 2 ^ m - 1) (st := 0) (v3 := -1) hn g7 (by rw [er3]; exact a4) (by rw [er3]; exact a5) byI_none (by omega) (by omega)
            rw [show p_LB_leastFor n E (nI (2 ^ m - 1)) 0 F1 G1 P1 N1 = some (orN v, F1, G2, P1, N1) from l1, l2, Option.bind_some, Option.bind_some]
            dsimp only
            rw [l8 17 (by decide) (by decide), e17]
            rcases l3 with e | e
            · rw [if_pos ((orN_ne (by omega)).mpr e), if_pos (show nI v = 1000000 by rw [e]; rfl)]
              exact ⟨-5, F1, G2, P1, N1, I4, R4, rfl, rfl, l4.rl⟩
            · have hv : ¬ v = 1000000 := by omega
              rw [if_neg (show ¬ orN v = (-5) from fun q => hv ((orN_ne (by omega)).mp q)), if_neg (show ¬ nI v = 1000000 from fun q => hv ((nI_eq (a := v) (b := 1000000) (by omega) (by omega)).mp q))]
              refine ⟨nI X - nI v, F1, G2, P1, N1, I4, R4, ?_, rfl, l4.rl⟩
              unfold orN
              rw [if_neg hv]
              rfl
      by_cases hy3 : y = 3
      · subst hy3
        obtain ⟨I3, R3, bm, bc, b1, b2, b3, b4, b5, b6⟩ := bestBoth hn a2 a4 a5
        rw [if_pos (show nI 3 = 3 from rfl), if_pos (show nI 3 = 3 from rfl), b2, b3, Option.bind_some, Option.bind_some, Option.bind_some, Option.bind_some]
        dsimp only
        rcases b4 with e | ⟨e, e1, e2⟩
        · rw [e, if_neg (show ¬ nI bc = (-1) from fun q => nI_pos (n := bc) (by omega) (by rw [q]; decide))]
          exact fin bc I3 R3 b1 b5 b6
        · rw [e, if_pos rfl, e1, e2]
          refine ⟨-5, F1, G1, P1, N1, I3, R3, ?_, rfl, b5.rl⟩
          by_cases hz1 : nI z = 1
          · rw [if_pos hz1]; rfl
          · rw [if_neg hz1, Option.bind_some]
            by_cases hz0 : nI z = 0
            · rw [if_pos hz0]
            · rw [if_neg hz0, if_pos rfl]
      · rw [if_neg (show ¬ nI y = 3 from fun q => hy3 ((nI_eq (a := y) (b := 3) (by omega) (by omega)).mp q)), if_neg (show ¬ nI y = 3 from fun q => hy3 ((nI_eq (a := y) (b := 3) (by omega) (by omega)).mp q)), Option.bind_some, Option.bind_some]
        dsimp only
        rw [if_neg (show ¬ nI y = (-1) from fun q => nI_pos (n := y) (by omega) (by rw [q]; decide))]
        exact fin y I R (by omega) a2 rfl
