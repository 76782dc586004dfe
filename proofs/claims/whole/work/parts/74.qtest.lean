/-! ===== a single condition in step ===== -/
def mTest (n : Nat) (I : Nat → Int32) (R : Nat → Nat → Int32) : Option MU := (p_Md_among n 5 I R).bind fun (x26, I24, R25) => (if x26 = (-1) then some 1 else some 0 : Option (Int32)).bind fun x28 => if isZ x28 then (if ((upd I24 7 x28) 7) = 0 then (p_Md_among n 6 (upd I24 7 x28) R25).bind fun (x37, I35, R36) => some (x37, I35, R36) else some (0, (upd I24 7 x28), R25) : Option (Int32 × (Nat → Int32) × (Nat → Nat → Int32))).bind fun (x31, I32, R33) => (if (I32 7) = 0 then (if x31 = (-1) then some 1 else some 0) else some 1 : Option (Int32)).bind fun x39 => if isZ x39 then (p_Md_figures n (upd I32 7 x39) R33).bind fun (x44, I42, R43) => (p_Md_emits n (((x26 + (8 * x31)) + (32 * x44))) I42 R43).bind fun (I46, R47) => some (I46, R47) else none else none
def mOpen (n : Nat) (fac : (Nat → Int32) → (Nat → Nat → Int32) → Option MU) (x2 : Int32) (I : Nat → Int32) (R : Nat → Nat → Int32) : Option MU := (if (I 8) = 5 then some 1 else some 0 : Option (Int32)).bind fun x4 => if isZ x4 then (if (((upd (upd I 7 x4) 8 (((upd I 7 x4) 8) + 1))) 7) = 0 then some 1 else some 0 : Option (Int32)).bind fun x7 => (if x2 = 33 then (fac ((upd (upd (upd I 7 x4) 8 (((upd I 7 x4) 8) + 1)) 5 (((((upd (upd I 7 x4) 8 (((upd I 7 x4) 8) + 1))) 5) + x7)))) R).bind fun (I18, R19) => (p_Md_emits n (-1) I18 R19).bind fun (I21, R22) => some (I21, R22) else (p_Md_some n fac ((upd (upd (upd I 7 x4) 8 (((upd I 7 x4) 8) + 1)) 5 (((((upd (upd I 7 x4) 8 (((upd I 7 x4) 8) + 1))) 5) + x7)))) R).bind fun (I12, R13) => (p_Md_must n 41 I12 R13).bind fun (I15, R16) => some (I15, R16) : Option ((Nat → Int32) × (Nat → Nat → Int32))).bind fun (I9, R10) => some ((upd I9 8 ((I9 8) - 1)), R10) else none
theorem y_fac_eq {n : Nat} {fac : (Nat → Int32) → (Nat → Nat → Int32) → Option MU} {I : Nat → Int32} {R : Nat → Nat → Int32} : p_Md_factorB n fac I R = if (I 7) = 0 then (p_Md_here n I R).bind fun x2 => (if x2 = 33 then mOpen n fac x2 I R else (if x2 = 40 then mOpen n fac x2 I R else mTest n I R)) else some (I, R) := rfl
def cOpen (n : Nat) (tl : Nat) (fac : Int32 → (Nat → Int32) → (Nat → Nat → Int32) → Option (Int32 × MU)) (v1 x2 : Int32) (I : Nat → Int32) (R : Nat → Nat → Int32) : Option (Int32 × MU) := (if v1 < 5 then (if x2 = 40 then (p_Ni_readEither n tl fac (v1 + 1) (upd I 4 ((I 4) + 1)) R).bind fun (x13, I11, R12) => (if x13 = 0 then some (0, I11, R12) else (p_Ni_take n tl 41 I11 R12).bind fun (x21, I19, R20) => (if x21 = 0 then some (0, I19, R20) else some (1, I19, R20)) : Option (Int32 × (Nat → Int32) × (Nat → Nat → Int32))).bind fun (x15, I16, R17) => if isZ x15 then some (x15, I16, R17) else none else (fac (v1 + 1) (upd I 4 ((I 4) + 1)) R).bind fun (x6, I4, R5) => (if x6 = 0 then some (0, I4, R5) else (p_Ni_addCode n tl (-1) I4 R5).bind fun (I8, R9) => some (1, I8, R9))) else some (0, I, R))
theorem y_sgl_eq {n tl : Nat} {fac : Int32 → (Nat → Int32) → (Nat → Nat → Int32) → Option (Int32 × MU)} {v1 : Int32} {I : Nat → Int32} {R : Nat → Nat → Int32} : p_Ni_readSingleB n tl fac v1 I R = (p_Ni_signAt n tl (I 4) I R).bind fun x2 => (if x2 = 33 then cOpen n tl fac v1 x2 I R else (if x2 = 40 then cOpen n tl fac v1 x2 I R else (p_Ni_readTest n tl I R).bind fun (x46, I44, R45) => if isZ x46 then some (x46, I44, R45) else none)) := rfl
theorem y_code : ∀ f, f < 6 → ∀ s, s < 3 → ∀ v, v ≤ 99 → (nI f * 3 + nI s) * 100 + nI v = kC ((f * 3 + s) * 100 + v + 3) ∧ nI f + 8 * nI s + 32 * nI v = kM ((f * 3 + s) * 100 + v + 3) := by
  intro f hf s hs v hv
  have a1 : kC ((f * 3 + s) * 100 + v + 3) = nI ((f * 3 + s) * 100 + v) := by unfold kC; rw [if_neg (by omega), if_neg (by omega), if_neg (by omega)]; rfl
  have a2 : kM ((f * 3 + s) * 100 + v + 3) = nI (f + 8 * s + 32 * v) := by
    unfold kM
    rw [if_neg (by omega), if_neg (by omega), if_neg (by omega), Nat.add_sub_cancel, show ((f * 3 + s) * 100 + v) / 300 = f by omega, show ((f * 3 + s) * 100 + v) / 100 % 3 = s by omega, show ((f * 3 + s) * 100 + v) % 100 = v by omega]
  rw [a1, a2]
  refine ⟨?_, ?_⟩
  · rw [show nI f * (3 : Int32) = nI (f * 3) from (Int32.ofNat_mul f 3).symm, nI_add, show nI (f * 3 + s) * (100 : Int32) = nI ((f * 3 + s) * 100) from (Int32.ofNat_mul (f * 3 + s) 100).symm, nI_add]
  · rw [show (8 : Int32) * nI s = nI (8 * s) from (Int32.ofNat_mul 8 s).symm, show (32 : Int32) * nI v = nI (32 * v) from (Int32.ofNat_mul 32 v).symm, nI_add, nI_add]
section yy
variable {T : Nat → Nat} {t k : Nat} {IC : Nat → Int32} {RC : Nat → Nat → Int32} {IM : Nat → Int32} {RM : Nat → Nat → Int32}
theorem y_oI {j : Nat} (h : j < 2 ^ 30) : 0 ≤ oI (some j) := nI_pos' (by omega)
theorem y_test (H : An T t k RC IM RM) {n o d p : Nat} {C : List Nat} {S : List Int32} {I : Nat → Int32} {R : Nat → Nat → Int32} {I' : Nat → Int32} {R' : Nat → Nat → Int32} (hn : 200 ≤ n) (hp : p ≤ t) (hC : C.length ≤ p) (hS : S.length ≤ p) (h : JC IC RC p C I R) (h' : JM k IM RM p S o I' R') : OutE t k IC RC IM RM p C S o d (p_Ni_readTest n t I R) (mTest n I' R') := by
  have ht := H.1
  unfold p_Ni_readTest mTest
  rw [y_idx (n := n) H (by omega) (show 5 < 12 by decide) (by decide) hp h, y_among (n := n) H (by omega) (show 5 < 12 by decide) hp h'.1 h'.2.1, Option.bind_some]
  cases hf : fx (bytS.getD 5 []) (sg T t p) 0 with
  | none =>
    dsimp only
    have w1 : WM k IM RM p (upd (upd I' 7 1) 7 1) R' := ⟨FM_u h'.1 (fun i a b c => by rw [y_ud b, y_ud b]), by rw [y_ud (by decide), y_ud (by decide)]; exact h'.2.1, pk_us⟩
    obtain ⟨y, I1, g1, g2⟩ := y_figW (n := n) (by omega) w1
    refine Or.inr ⟨I, R, I1, R', p, ?_, ?_, hp, h.2.2.1, g2⟩
    · rw [if_neg (show ¬ 0 ≤ oI none by decide)]
    · rw [Option.bind_some]
      dsimp only
      rw [if_pos (show (-1 : Int32) = -1 from rfl), Option.bind_some, if_pos (show isZ 1 from Or.inr rfl), if_neg (show ¬ upd I' 7 1 7 = 0 by rw [pk_us]; decide), Option.bind_some]
      dsimp only
      rw [if_neg (show ¬ upd I' 7 1 7 = 0 by rw [pk_us]; decide), Option.bind_some, if_pos (show isZ 1 from Or.inr rfl), g1, Option.bind_some]
      dsimp only
      rw [y_emitW g2]; rfl
  | some f =>
    obtain ⟨hpt, hf6⟩ := fx_sg H (show 5 < 12 by decide) hf
    have hf6' : f < 6 := hf6
    dsimp only
    rw [if_pos (y_oI (by omega)), h.2.2.1, nI_1, Option.bind_some]
    dsimp only
    rw [if_neg (show ¬ nI f = -1 from fun e => nI_pos (n := f) (by omega) (by rw [e]; decide)), Option.bind_some, if_pos (show isZ 0 from Or.inl rfl), if_pos (show upd (upd I' 5 (nI (p + 1))) 7 0 7 = 0 from pk_us)]
    have j2 : JC IC RC (p + 1) C (upd I 4 (nI (p + 1))) R := ⟨fun i a b => by rw [y_ud a]; exact h.1 i a b, h.2.1, pk_us, by rw [y_ud (by decide)]; exact h.2.2.2.1, h.2.2.2.2⟩
    have m2 : JM k IM RM (p + 1) S o (upd (upd I' 5 (nI (p + 1))) 7 0) R' := ⟨FM_u h'.1 (fun i a b c => by rw [y_ud b, y_ud a]), by rw [y_ud (by decide), pk_us], pk_us, by rw [y_ud (by decide), y_ud (by decide)]; exact h'.2.2.2.1, h'.2.2.2.2⟩
    rw [y_idx (n := n) H (by omega) (show 6 < 12 by decide) (by decide) hpt j2, y_among (n := n) H (by omega) (show 6 < 12 by decide) hpt m2.1 m2.2.1, Option.bind_some]
    cases hs : fx (bytS.getD 6 []) (sg T t (p + 1)) 0 with
    | none =>
      dsimp only
      rw [if_neg (show ¬ 0 ≤ oI none by decide), Option.bind_some]
      dsimp only
      rw [Option.bind_some]
      dsimp only
      rw [if_pos m2.2.2.1, if_pos (show (-1 : Int32) = -1 from rfl), Option.bind_some, if_pos (show isZ 1 from Or.inr rfl)]
      have w1 : WM k IM RM (p + 1) (upd (upd (upd I' 5 (nI (p + 1))) 7 0) 7 1) R' := ⟨FM_u m2.1 (fun i a b c => by rw [y_ud b]), by rw [y_ud (by decide)]; exact m2.2.1, pk_us⟩
      obtain ⟨y, I1, g1, g2⟩ := y_figW (n := n) (by omega) w1
      refine Or.inr ⟨_, R, I1, R', p + 1, rfl, ?_, hpt, pk_us, g2⟩
      rw [g1, Option.bind_some]
      dsimp only
      rw [y_emitW g2]; rfl
    | some s =>
      obtain ⟨hpt2, hs3⟩ := fx_sg H (show 6 < 12 by decide) hs
      have hs3' : s < 3 := hs3
      dsimp only
      rw [if_pos (y_oI (by omega)), Option.bind_some]
      dsimp only
      rw [Option.bind_some]
      dsimp only
      have j3 : JC IC RC (p + 1 + 1) C (upd (upd I 4 (nI (p + 1))) 4 (upd I 4 (nI (p + 1)) 4 + 1)) R := ⟨fun i a b => by rw [y_ud a]; exact j2.1 i a b, h.2.1, by rw [pk_us, pk_us, nI_1], by rw [y_ud (by decide)]; exact j2.2.2.2.1, h.2.2.2.2⟩
      have m3 : JM k IM RM (p + 1 + 1) S o (upd (upd (upd (upd I' 5 (nI (p + 1))) 7 0) 5 (nI (p + 1 + 1))) 7 0) R' := ⟨FM_u m2.1 (fun i a b c => by rw [y_ud b, y_ud a]), by rw [y_ud (by decide), pk_us], pk_us, by rw [y_ud (by decide), y_ud (by decide)]; exact m2.2.2.2.1, h'.2.2.2.2⟩
      rw [if_pos (show upd (upd (upd I' 5 (nI (p + 1))) 7 0) 5 (nI (p + 1 + 1)) 7 = 0 by rw [y_ud (by decide)]; exact pk_us), if_neg (show ¬ nI s = -1 from fun e => nI_pos (n := s) (by omega) (by rw [e]; decide)), Option.bind_some, if_pos (show isZ 0 from Or.inl rfl)]
      rcases y_num (n := n) H (by omega) hpt2 j3 m3 with ⟨v, p', I1, I2, hv, q1, q2, q3, q4, q5, q6⟩ | ⟨y, I2, q3, q4, q5⟩
      · rw [q3, q4, Option.bind_some, Option.bind_some]
        dsimp only
        rw [if_pos (nI_pos' (by omega))]
        show OutE t k IC RC IM RM p C S o d ((p_Ni_addCode n t ((nI f * 3 + nI s) * 100 + nI v) I1 R).bind _) _
        rw [(y_code f hf6' s hs3' v hv).1, (y_code f hf6' s hs3' v hv).2]
        obtain ⟨I3, R3, u1, u2⟩ := y_add (n := n) (c := (f * 3 + s) * 100 + v + 3) (t := t) ht (by omega) q5
        obtain ⟨R4, w1, w2⟩ := y_emit (n := n) (v := kM ((f * 3 + s) * 100 + v + 3)) H (by omega) q6
        rw [u1, w1]
        refine Or.inl ⟨I3, R3, I2, R4, p', [(f * 3 + s) * 100 + v + 3], rfl, rfl, by omega, q2, by simp only [List.length_singleton]; omega, fun h hh => ⟨Or.inr (Or.inr ⟨by omega, by omega, by omega⟩), ?_⟩, u2, w2⟩
        unfold hg
        rw [if_neg (by omega), if_neg (by omega)]; rfl
      · rw [q3, q4, Option.bind_some, Option.bind_some]
        dsimp only
        rw [if_neg (show ¬ (0 : Int32) ≤ -1 by decide), y_emitW q5]
        exact Or.inr ⟨_, R, I2, R', p + 1 + 1, rfl, rfl, hpt2, j3.2.2.1, q5⟩
end yy
