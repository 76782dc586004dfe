/-! ===== step: act ===== -/
def TR (c : Nat) (G : Nat → Nat → Int32) (I : Nat → Int32) (R : Nat → Nat → Int32) : Prop := G 5 0 = nI c ∧ I 20 = nI c ∧ ∀ j, j < c → G 5 (1 + j) = R 19 j
def AF (G G' : Nat → Nat → Int32) (I I' : Nat → Int32) (R R' : Nat → Nat → Int32) : Prop := (∀ k, k ≠ 5 → G' k = G k) ∧ (∀ q, q ≠ 20 → I' q = I q) ∧ ∀ q, q ≠ 19 → R' q = R q
theorem AF.trans {G G1 G2 : Nat → Nat → Int32} {I I1 I2 : Nat → Int32} {R R1 R2 : Nat → Nat → Int32} (h1 : AF G G1 I I1 R R1) (h2 : AF G1 G2 I1 I2 R1 R2) : AF G G2 I I2 R R2 := ⟨fun k hk => (h2.1 k hk).trans (h1.1 k hk), fun k hk => (h2.2.1 k hk).trans (h1.2.1 k hk), fun k hk => (h2.2.2 k hk).trans (h1.2.2 k hk)⟩
theorem a_beg {n c : Nat} {bd : Int32} {E : PE} {F G : Nat → Nat → Int32} {P : Nat → Nat → Option Nat} {N : Nat → Nat} {I : Nat → Int32} {R : Nat → Nat → Int32} (h : TR c G I R) (hc : c < 20) :
    ∃ G' I' R', p_Wa_begin n E bd F G P N = some (F, G', P, N) ∧ p_Md_ranBody n bd I R = some (I', R') ∧ TR (c + 1) G' I' R' ∧ AF G G' I I' R R' := by
  obtain ⟨h1, h2, h3⟩ := h
  refine ⟨upR (upR G 5 0 (nI (c + 1))) 5 (c + 1) bd, upd I 20 (nI (c + 1)), upR R 19 c bd, ?_, ?_, ⟨?_, pk_us, fun j hj => ?_⟩, fun k hk => by rw [q_upN hk, q_upN hk], fun q hq => pk_un hq, fun q hq => q_upN hq⟩
  · unfold p_Wa_begin
    rw [h1, nI_1, if_pos (show (1 : Int32) ≤ nI (c + 1) from nI_le (a := 1) (by omega) (by omega)), if_neg (show ¬ (21 : Int32) ≤ nI (c + 1) from nI_ge (b := 21) (by omega) (by omega)), if_pos (nI_in (by omega) (by omega)), nI_clamp (by omega)]
  · unfold p_Md_ranBody
    rw [h2, if_neg (show ¬ (20 : Int32) ≤ nI c from nI_ge (b := 20) hc (by omega)), if_pos (nI_in hc (by omega)), nI_clamp (by omega), Option.bind_some]
    dsimp only
    rw [h2, nI_1]
  · rw [q_upE (by omega), q_upV]
  · by_cases e : j = c
    · subst e
      rw [show 1 + j = j + 1 by omega, q_upV, q_upV]
    · rw [q_upE (by omega), q_upE (by omega), q_upE (by omega)]
      exact h3 j (by omega)
/-- the one who acts -/
def AW (E : PE) (q k p v : Nat) (I : Nat → Int32) : Prop := k ≤ 6 ∧ eV E q = true ∧ eC E q = clsOf (nI k) ∧ eD E q 1 = nI p ∧ eD E q 2 = nI v ∧ I 21 = nI k ∧ I 22 = nI p ∧ I 23 = nI v
theorem AW.af {E : PE} {q k p v : Nat} {G G' : Nat → Nat → Int32} {I I' : Nat → Int32} {R R' : Nat → Nat → Int32} (h : AW E q k p v I) (hf : AF G G' I I' R R') : AW E q k p v I' := by
  obtain ⟨h1, h2, h3, h4, h5, h6, h7, h8⟩ := h
  exact ⟨h1, h2, h3, h4, h5, by rw [hf.2.1 21 (by decide)]; exact h6, by rw [hf.2.1 22 (by decide)]; exact h7, by rw [hf.2.1 23 (by decide)]; exact h8⟩
def AO (c d : Nat) (F G : Nat → Nat → Int32) (P : Nat → Nat → Option Nat) (N : Nat → Nat) (I : Nat → Int32) (R : Nat → Nat → Int32) (f : Option (Int32 × CU)) (g : Option (Int32 × MU)) : Prop := ∃ (r : Int32) (c' : Nat) (G' : Nat → Nat → Int32) (I' : Nat → Int32) (R' : Nat → Nat → Int32), f = some (r, F, G', P, N) ∧ g = some (r, I', R') ∧ c' ≤ c + d ∧ TR c' G' I' R' ∧ AF G G' I I' R R'
theorem a_plain {n c q k p v : Nat} {x : Int32} {E : PE} {F G : Nat → Nat → Int32} {P : Nat → Nat → Option Nat} {N : Nat → Nat} {I : Nat → Int32} {R : Nat → Nat → Int32} (hw : AW E q k p v I) (h : TR c G I R) (hc : c < 20) : AO c 1 F G P N I R (p_Wa_goes n E q x F G P N) (p_Md_plainGoes n x I R) := by
  obtain ⟨G1, I1, R1, b1, b2, b3, b4⟩ := a_beg (n := n) (bd := 1) (E := E) (F := F) (P := P) (N := N) h hc
  have hw1 := hw.af b4
  obtain ⟨h1, h2, h3, h4, h5, h6, h7, h8⟩ := hw1
  refine ⟨x + nI p, c + 1, G1, I1, R1, ?_, ?_, by omega, b3, b4⟩
  · unfold p_Wa_goes
    rw [b1, Option.bind_some]
    dsimp only
    rw [if_pos h2, h4]
  · unfold p_Md_plainGoes
    rw [b2, Option.bind_some]
    dsimp only
    rw [h7]
theorem a_quick {n c q k p v : Nat} {x : Int32} {E : PE} {F G : Nat → Nat → Int32} {P : Nat → Nat → Option Nat} {N : Nat → Nat} {I : Nat → Int32} {R : Nat → Nat → Int32} (hw : AW E q k p v I) (h : TR c G I R) (hc : c < 18) : AO c 2 F G P N I R (p_Qu_goes n E q x F G P N) ((p_Md_ranBody n 11 I R).bind fun (I15, R16) => (p_Md_plainGoes n (x * 3) I15 R16).bind fun (x20, I18, R19) => some (x20, I18, R19)) := by
  obtain ⟨G1, I1, R1, b1, b2, b3, b4⟩ := a_beg (n := n) (bd := 11) (E := E) (F := F) (P := P) (N := N) h (by omega)
  have hw1 := hw.af b4
  obtain ⟨r, c', G2, I2, R2, d1, d2, d3, d4, d5⟩ := a_plain (n := n) (x := x * 3) (F := F) (P := P) (N := N) hw1 b3 (by omega)
  refine ⟨r, c', G2, I2, R2, ?_, ?_, by omega, d4, b4.trans d5⟩
  · unfold p_Qu_goes
    rw [b1, Option.bind_some]
    dsimp only
    rw [if_pos hw.2.1, d1]
    rfl
  · rw [b2, Option.bind_some]
    dsimp only
    rw [d2]
    rfl
theorem a_goes {n c q k p v : Nat} {x : Int32} {E : PE} {F G : Nat → Nat → Int32} {P : Nat → Nat → Option Nat} {N : Nat → Nat} {I : Nat → Int32} {R : Nat → Nat → Int32} (hw : AW E q k p v I) (h : TR c G I R) (hc : c < 18) : AO c 2 F G P N I R (pd_goes n E q x F G P N) (p_Md_goesActs n x I R) := by
  have hk := hw.1
  have ec := hw.2.2.1
  have ei := hw.2.2.2.2.2.1
  unfold pd_goes p_Md_goesActs
  rw [ec, ei]
  have pl : AO c 2 F G P N I R (p_Wa_goes n E q x F G P N) ((p_Md_plainGoes n x I R).bind fun (x6, I4, R5) => some (x6, I4, R5)) := by
    obtain ⟨r, c', G2, I2, R2, d1, d2, d3, d4, d5⟩ := a_plain (n := n) (x := x) (F := F) (P := P) (N := N) hw h (by omega)
    exact ⟨r, c', G2, I2, R2, d1, by rw [d2]; rfl, by omega, d4, d5⟩
  rcases (by omega : k = 0 ∨ k = 1 ∨ k = 2 ∨ k = 3 ∨ k = 4 ∨ k = 5 ∨ k = 6) with rfl | rfl | rfl | rfl | rfl | rfl | rfl
  · exact pl
  · exact a_quick hw h hc
  · exact pl
  · exact pl
  · exact a_quick hw h hc
  · obtain ⟨G1, I1, R1, b1, b2, b3, b4⟩ := a_beg (n := n) (bd := 51) (E := E) (F := F) (P := P) (N := N) h (by omega)
    have hw1 := hw.af b4
    obtain ⟨r, c', G2, I2, R2, d1, d2, d3, d4, d5⟩ := a_plain (n := n) (x := x) (F := F) (P := P) (N := N) hw1 b3 (by omega)
    have hw2 := hw1.af d5
    refine ⟨r ^^^ nI p, c', G2, I2, R2, ?_, ?_, by omega, d4, b4.trans d5⟩
    · show p_Ca_goes n E q x F G P N = _
      unfold p_Ca_goes
      rw [b1, Option.bind_some]
      dsimp only
      rw [if_pos hw.2.1, d1, Option.bind_some]
      dsimp only
      rw [hw.2.2.2.1]
    · show ((p_Md_ranBody n 51 I R).bind fun (I8, R9) => (p_Md_plainGoes n x I8 R9).bind fun (x13, I11, R12) => some ((x13 ^^^ (I11 22)), I11, R12)) = _
      rw [b2, Option.bind_some]
      dsimp only
      rw [d2, Option.bind_some]
      dsimp only
      rw [hw2.2.2.2.2.2.2.1]
  · exact pl
theorem a_pwaits {n c q k p v : Nat} {x : Int32} {E : PE} {F G : Nat → Nat → Int32} {P : Nat → Nat → Option Nat} {N : Nat → Nat} {I : Nat → Int32} {R : Nat → Nat → Int32} (hw : AW E q k p v I) (h : TR c G I R) (hc : c < 16) : AO c 3 F G P N I R (p_Wa_waits n E q x F G P N) (p_Md_plainWaits n x I R) := by
  obtain ⟨G1, I1, R1, b1, b2, b3, b4⟩ := a_beg (n := n) (bd := 2) (E := E) (F := F) (P := P) (N := N) h (by omega)
  have hw1 := hw.af b4
  obtain ⟨r, c', G2, I2, R2, d1, d2, d3, d4, d5⟩ := a_goes (n := n) (x := x) (F := F) (P := P) (N := N) hw1 b3 (by omega)
  have hw2 := hw1.af d5
  refine ⟨r - nI v, c', G2, I2, R2, ?_, ?_, by omega, d4, b4.trans d5⟩
  · unfold p_Wa_waits
    rw [b1, Option.bind_some]
    dsimp only
    rw [if_pos hw.2.1, d1, Option.bind_some]
    dsimp only
    rw [hw.2.2.2.2.1]
  · unfold p_Md_plainWaits
    rw [b2, Option.bind_some]
    dsimp only
    rw [d2, Option.bind_some]
    dsimp only
    rw [hw2.2.2.2.2.2.2.2]
theorem a_waits {n c q k p v : Nat} {x : Int32} {E : PE} {F G : Nat → Nat → Int32} {P : Nat → Nat → Option Nat} {N : Nat → Nat} {I : Nat → Int32} {R : Nat → Nat → Int32} (hw : AW E q k p v I) (h : TR c G I R) (hc : c < 15) : AO c 4 F G P N I R (pd_waits n E q x F G P N) (p_Md_waitsActs n x I R) := by
  have hk := hw.1
  have ec := hw.2.2.1
  have ei := hw.2.2.2.2.2.1
  unfold pd_waits p_Md_waitsActs
  rw [ec, ei]
  have pl : AO c 4 F G P N I R (p_Wa_waits n E q x F G P N) ((p_Md_plainWaits n x I R).bind fun (x6, I4, R5) => some (x6, I4, R5)) := by
    obtain ⟨r, c', G2, I2, R2, d1, d2, d3, d4, d5⟩ := a_pwaits (n := n) (x := x) (F := F) (P := P) (N := N) hw h (by omega)
    exact ⟨r, c', G2, I2, R2, d1, by rw [d2]; rfl, by omega, d4, d5⟩
  have la : AO c 4 F G P N I R (p_La_waits n E q x F G P N) ((p_Md_ranBody n 21 I R).bind fun (I15, R16) => (p_Md_plainWaits n x I15 R16).bind fun (x20, I18, R19) => some ((-x20), I18, R19)) := by
    obtain ⟨G1, I1, R1, b1, b2, b3, b4⟩ := a_beg (n := n) (bd := 21) (E := E) (F := F) (P := P) (N := N) h (by omega)
    have hw1 := hw.af b4
    obtain ⟨r, c', G2, I2, R2, d1, d2, d3, d4, d5⟩ := a_pwaits (n := n) (x := x) (F := F) (P := P) (N := N) hw1 b3 (by omega)
    refine ⟨-r, c', G2, I2, R2, ?_, ?_, by omega, d4, b4.trans d5⟩
    · unfold p_La_waits
      rw [b1, Option.bind_some]
      dsimp only
      rw [if_pos hw.2.1, d1]
      rfl
    · rw [b2, Option.bind_some]
      dsimp only
      rw [d2]
      rfl
  rcases (by omega : k = 0 ∨ k = 1 ∨ k = 2 ∨ k = 3 ∨ k = 4 ∨ k = 5 ∨ k = 6) with rfl | rfl | rfl | rfl | rfl | rfl | rfl
  · exact pl
  · exact pl
  · exact la
  · exact pl
  · exact pl
  · exact la
  · obtain ⟨G1, I1, R1, b1, b2, b3, b4⟩ := a_beg (n := n) (bd := 61) (E := E) (F := F) (P := P) (N := N) h (by omega)
    have hw1 := hw.af b4
    obtain ⟨r, c', G2, I2, R2, d1, d2, d3, d4, d5⟩ := a_pwaits (n := n) (x := x) (F := F) (P := P) (N := N) hw1 b3 (by omega)
    have hw2 := hw1.af d5
    refine ⟨r + nI v, c', G2, I2, R2, ?_, ?_, by omega, d4, b4.trans d5⟩
    · show p_Tr_waits n E q x F G P N = _
      unfold p_Tr_waits
      rw [b1, Option.bind_some]
      dsimp only
      rw [if_pos hw.2.1, d1, Option.bind_some]
      dsimp only
      rw [hw.2.2.2.2.1]
    · show ((p_Md_ranBody n 61 I R).bind fun (I8, R9) => (p_Md_plainWaits n x I8 R9).bind fun (x13, I11, R12) => some ((x13 + (I11 23)), I11, R12)) = _
      rw [b2, Option.bind_some]
      dsimp only
      rw [d2, Option.bind_some]
      dsimp only
      rw [hw2.2.2.2.2.2.2.2]
theorem a_ptells {n c q k p v : Nat} {x : Int32} {E : PE} {F G : Nat → Nat → Int32} {P : Nat → Nat → Option Nat} {N : Nat → Nat} {I : Nat → Int32} {R : Nat → Nat → Int32} (hw : AW E q k p v I) (h : TR c G I R) (hc : c < 13) : AO c 5 F G P N I R (p_Wa_tells n E q x F G P N) (p_Md_plainTells n x I R) := by
  obtain ⟨G1, I1, R1, b1, b2, b3, b4⟩ := a_beg (n := n) (bd := 3) (E := E) (F := F) (P := P) (N := N) h (by omega)
  have hw1 := hw.af b4
  obtain ⟨r, c', G2, I2, R2, d1, d2, d3, d4, d5⟩ := a_waits (n := n) (x := x) (F := F) (P := P) (N := N) hw1 b3 (by omega)
  refine ⟨r * 2, c', G2, I2, R2, ?_, ?_, by omega, d4, b4.trans d5⟩
  · unfold p_Wa_tells
    rw [b1, Option.bind_some]
    dsimp only
    rw [if_pos hw.2.1, d1]
    rfl
  · unfold p_Md_plainTells
    rw [b2, Option.bind_some]
    dsimp only
    rw [d2]
    rfl
theorem a_tells {n c q k p v : Nat} {x : Int32} {E : PE} {F G : Nat → Nat → Int32} {P : Nat → Nat → Option Nat} {N : Nat → Nat} {I : Nat → Int32} {R : Nat → Nat → Int32} (hw : AW E q k p v I) (h : TR c G I R) (hc : c < 9) : AO c 8 F G P N I R (pd_tells n E q x F G P N) (p_Md_tellsActs n x I R) := by
  have hk := hw.1
  have ec := hw.2.2.1
  have ei := hw.2.2.2.2.2.1
  unfold pd_tells p_Md_tellsActs
  rw [ec, ei]
  have pl : AO c 8 F G P N I R (p_Wa_tells n E q x F G P N) ((p_Md_plainTells n x I R).bind fun (x6, I4, R5) => some (x6, I4, R5)) := by
    obtain ⟨r, c', G2, I2, R2, d1, d2, d3, d4, d5⟩ := a_ptells (n := n) (x := x) (F := F) (P := P) (N := N) hw h (by omega)
    exact ⟨r, c', G2, I2, R2, d1, by rw [d2]; rfl, by omega, d4, d5⟩
  have ti : AO c 8 F G P N I R (p_Ti_tells n E q x F G P N) ((p_Md_ranBody n 31 I R).bind fun (I19, R20) => (p_Md_plainTells n x I19 R20).bind fun (x24, I22, R23) => some ((x24 ^^^ 7), I22, R23)) := by
    obtain ⟨G1, I1, R1, b1, b2, b3, b4⟩ := a_beg (n := n) (bd := 31) (E := E) (F := F) (P := P) (N := N) h (by omega)
    have hw1 := hw.af b4
    obtain ⟨r, c', G2, I2, R2, d1, d2, d3, d4, d5⟩ := a_ptells (n := n) (x := x) (F := F) (P := P) (N := N) hw1 b3 (by omega)
    refine ⟨r ^^^ 7, c', G2, I2, R2, ?_, ?_, by omega, d4, b4.trans d5⟩
    · unfold p_Ti_tells
      rw [b1, Option.bind_some]
      dsimp only
      rw [if_pos hw.2.1, d1]
      rfl
    · rw [b2, Option.bind_some]
      dsimp only
      rw [d2]
      rfl
  rcases (by omega : k = 0 ∨ k = 1 ∨ k = 2 ∨ k = 3 ∨ k = 4 ∨ k = 5 ∨ k = 6) with rfl | rfl | rfl | rfl | rfl | rfl | rfl
  · exact pl
  · exact pl
  · exact pl
  · exact ti
  · obtain ⟨G1, I1, R1, b1, b2, b3, b4⟩ := a_beg (n := n) (bd := 41) (E := E) (F := F) (P := P) (N := N) h (by omega)
    have hw1 := hw.af b4
    obtain ⟨r, c', G2, I2, R2, d1, d2, d3, d4, d5⟩ := a_ptells (n := n) (x := x - 1) (F := F) (P := P) (N := N) hw1 b3 (by omega)
    have hw2 := hw1.af d5
    obtain ⟨r3, c3, G3, I3, R3, e1, e2, e3, e4, e5⟩ := a_goes (n := n) (x := 2) (F := F) (P := P) (N := N) hw2 d4 (by omega)
    have e1' : p_Qu_goes n E q 2 F G2 P N = some (r3, F, G3, P, N) := by
      have := e1
      unfold pd_goes at this
      rw [ec] at this
      exact this
    refine ⟨r + r3, c3, G3, I3, R3, ?_, ?_, by omega, e4, (b4.trans d5).trans e5⟩
    · show p_Le_tells n E q x F G P N = _
      unfold p_Le_tells
      rw [b1, Option.bind_some]
      dsimp only
      rw [if_pos hw.2.1, d1, Option.bind_some]
      dsimp only
      rw [if_pos (show eC E q = 3 by rw [ec]; rfl), e1']
      rfl
    · show ((p_Md_ranBody n 41 I R).bind fun (I8, R9) => (p_Md_plainTells n (x - 1) I8 R9).bind fun (x13, I11, R12) => (p_Md_goesActs n 2 I11 R12).bind fun (x17, I15, R16) => some ((x13 + x17), I15, R16)) = _
      rw [b2, Option.bind_some]
      dsimp only
      rw [d2, Option.bind_some]
      dsimp only
      rw [e2]
      rfl
  · exact pl
  · exact ti
theorem RLp_T {E : PE} {F G G' : Nat → Nat → Int32} {P : Nat → Nat → Option Nat} {N : Nat → Nat} {I I' : Nat → Int32} {R R' : Nat → Nat → Int32} {m k r b t w a : Nat} {L : List Cls} {be he oi c : Nat} (h : RLp E F G P N I R m k r b t w a L be he oi) (hG : ∀ k, k ≠ 5 → G' k = G k) (i3 : I' 3 = I 3) (hR : ∀ q, q ≠ 19 → R' q = R q) (hc : c ≤ 20) (ht : TR c G' I' R') : RLp E F G' P N I' R' m k r b t w a L be he oi := by
  obtain ⟨h1, im, tr, sl⟩ := h
  refine ⟨?_, ?_, ⟨c, hc, ht.2.1, ht.1, ht.2.2⟩, ?_⟩
  · rw [hG 6 (by decide), hG 11 (by decide), hG 13 (by decide), hG 15 (by decide), hR 1 (by decide)]; exact h1
  · unfold Img at im ⊢
    rw [hG 7 (by decide), hG 12 (by decide), hG 14 (by decide), hG 16 (by decide), hR 2 (by decide), i3]; exact im
  · rw [hR 1 (by decide)]
    exact Stl_cg (fun _ _ _ => rfl) h1.1.1.1 rfl rfl rfl rfl (fun q hq => hG q (by omega)) sl
theorem st_act {n : Nat} {v1 v2 v3 : Int32} {E : PE} {F G : Nat → Nat → Int32} {P : Nat → Nat → Option Nat} {N : Nat → Nat} {I : Nat → Int32} {R : Nat → Nat → Int32} (h : RL E F G P N I R) : OKi E (p_LB_act n E v1 v2 v3 F G P N) (p_Md_act n v1 v2 v3 I R) := by
  obtain ⟨m, k, r, b, t, w, a, L, be, he, oi, h⟩ := h
  obtain ⟨hm, h0, hB, hL, hTl⟩ := SR_go h.1
  obtain ⟨-, ⟨q0, f5⟩, -⟩ := h.1.1
  unfold p_LB_act p_Md_act
  have no : OKi E (some (0, F, upR G 5 0 0, P, N)) (some (0, upd I 20 0, R)) := ⟨0, F, upR G 5 0 0, P, N, upd I 20 0, R, rfl, rfl, (RLp_T (c := 0) h (fun k hk => q_upN hk) (pk_un (by decide)) (fun q _ => rfl) (by omega) ⟨q_upV, pk_us, fun j hj => by omega⟩).rl⟩
  rcases walkC (n := n) (v := v1) (G := upR G 5 0 0) (N := N) (I := upd I 20 0) hm f5 h0 h.1.2.1 with ⟨p, q, hp, rfl, h1, h2, h3⟩ | ⟨h1, h2⟩
  · rw [h1, h3, Option.bind_some, Option.bind_some, if_neg (show ¬ (1 : Int32) = 0 by decide)]
    dsimp only [Option.elim]
    obtain ⟨w1, w2, w3, w4, w5, w6, w7⟩ := h2
    obtain ⟨kk, v, pc, wt, vk, vv, vp, vw, k6, v9, p1, p30, w9⟩ := hB p hp
    rcases inR (n := n) (x := v2) (c := 2) (C := 2) (by omega) rfl with ⟨i1, i2⟩ | ⟨i1, i2, i3, i4⟩ | ⟨y, hy, rfl, i2, i3, i4, i5⟩
    · have ne : ∀ j : Nat, j < 10 → ¬ v2 = nI j := fun j hj e => nI_pos (n := j) (by omega) (by rw [← e]; exact i1)
      rw [i2, if_neg (show ¬ v2 = 0 from ne 0 (by omega)), if_neg (show ¬ v2 = 1 from ne 1 (by omega)), if_neg (show ¬ v2 = 2 from ne 2 (by omega))]
      exact no
    · have ne : ∀ j : Nat, j < 3 → ¬ v2 = nI j := fun j hj e => i3 (by rw [e]; exact nI_le (b := 2) (by omega) (by omega))
      rw [i4, if_neg (show ¬ v2 = 0 from ne 0 (by omega)), if_neg (show ¬ v2 = 1 from ne 1 (by omega)), if_neg (show ¬ v2 = 2 from ne 2 (by omega))]
      exact no
    · rw [i2, Option.bind_some, if_neg (show ¬ (1 : Int32) = 0 by decide), show (10 : Int32) + nI p = nI (10 + p) from nI_add 10 p, show (16 : Int32) + nI p = nI (16 + p) from nI_add 16 p, if_pos (nI_in (c := 10 + p) (by omega) (by omega)), if_pos (nI_in (c := 16 + p) (by omega) (by omega)), nI_clamp (n := 10 + p) (by omega), nI_clamp (n := 16 + p) (by omega), if_pos w1, if_pos w1, if_pos w1, vk, vv]
      generalize hI1 : (upd (upd (upd (upd I 20 0) 21 (nI kk)) 22 (nI p)) 23 (nI v)) = I1
      have hAW : AW E q kk p v I1 := by
        rw [← hI1]
        refine ⟨k6, w1, by rw [w2, vk], w4, by rw [w5, vv], ?_, ?_, ?_⟩ <;> simp [upd]
      have hTR : TR 0 (upR G 5 0 0) I1 R := ⟨q_upV, by rw [← hI1]; simp [upd]; rfl, fun j hj => by omega⟩
      have i13 : I1 3 = I 3 := by rw [← hI1]; simp [upd]
      have fin : ∀ (d : Nat) (f : Option (Int32 × CU)) (g : Option (Int32 × MU)), d ≤ 20 → AO 0 d F (upR G 5 0 0) P N I1 R f g → ∃ (r : Int32) (G' : Nat → Nat → Int32) (I' : Nat → Int32) (R' : Nat → Nat → Int32), f = some (r, F, G', P, N) ∧ g = some (r, I', R') ∧ RL E F G' P N I' R' := by
        intro d f g hd hA
        obtain ⟨r, c', G', I', R', e1, e2, e3, e4, e5⟩ := hA
        refine ⟨r, G', I', R', e1, e2, (RLp_T (c := c') h (fun k hk => by rw [e5.1 k hk, q_upN hk]) ?_ e5.2.2 (by omega) e4).rl⟩
        rw [e5.2.1 3 (by decide), i13]
      rcases (by omega : y = 0 ∨ y = 1 ∨ y = 2) with rfl | rfl | rfl
      · obtain ⟨r, G', I', R', e1, e2, e3⟩ := fin 2 _ _ (by omega) (a_goes (n := n) (x := v3) hAW hTR (by omega))
        refine ⟨r, F, G', P, N, I', R', ?_, ?_, e3⟩
        · show ((pd_goes n E q v3 F (upR G 5 0 0) P N).bind _) = _
          rw [e1]; rfl
        · show (((p_Md_goesActs n v3 I1 R).bind fun (x22, I20, R21) => some (x22, I20, R21)).bind _) = _
          rw [e2]; rfl
      · obtain ⟨r, G', I', R', e1, e2, e3⟩ := fin 4 _ _ (by omega) (a_waits (n := n) (x := v3) hAW hTR (by omega))
        refine ⟨r, F, G', P, N, I', R', ?_, ?_, e3⟩
        · show ((pd_waits n E q v3 F (upR G 5 0 0) P N).bind _) = _
          rw [e1]; rfl
        · show (((p_Md_waitsActs n v3 I1 R).bind fun (x18, I16, R17) => some (x18, I16, R17)).bind _) = _
          rw [e2]; rfl
      · obtain ⟨r, G', I', R', e1, e2, e3⟩ := fin 8 _ _ (by omega) (a_tells (n := n) (x := v3) hAW hTR (by omega))
        refine ⟨r, F, G', P, N, I', R', ?_, ?_, e3⟩
        · show ((pd_tells n E q v3 F (upR G 5 0 0) P N).bind _) = _
          rw [e1]; rfl
        · show (((p_Md_tellsActs n v3 I1 R).bind fun (x14, I12, R13) => some (x14, I12, R13)).bind _) = _
          rw [e2]; rfl
  · rw [h1, h2]
    exact no
