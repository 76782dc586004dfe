/-! ===== slow and bar in step ===== -/
def mSlow (n : Nat) (I : Nat → Int32) (R : Nat → Nat → Int32) : Option MU := (p_Md_spells n 7 I R).bind fun (I13, R14) => (p_Md_figures n I13 R14).bind fun (x18, I16, R17) => (p_Md_must n 32 I16 R17).bind fun (I20, R21) => (p_Md_someT n I20 R21).bind fun (I23, R24) => (p_Md_emits n ((-10) - x18) I23 R24).bind fun (I26, R27) => some (I26, R27)
def mBar (n : Nat) (I : Nat → Int32) (R : Nat → Nat → Int32) : Option MU := (p_Md_spells n 8 I R).bind fun (I10, R11) => (p_Md_someT n I10 R11).bind fun (I13, R14) => (p_Md_emits n (-200) I13 R14).bind fun (I16, R17) => some (I16, R17)
theorem F2_r {k : Nat} {I : Nat → Int32} {R : Nat → Nat → Int32} : F2 k I R I R := ⟨fun _ _ _ _ => rfl, fun _ _ => rfl, fun _ _ _ _ _ _ => rfl⟩
section yy
variable {T : Nat → Nat} {t k : Nat} {IC : Nat → Int32} {RC : Nat → Nat → Int32} {IM : Nat → Int32} {RM : Nat → Nat → Int32}
/-- the end of a slow or bar clause -/
theorem y_tail {n w v p p1 : Nat} {L : List Cls} {be he oi : Nat} {I Ic : Nat → Int32} {R : Nat → Nat → Int32} {I' Im : Nat → Int32} {R' : Nat → Nat → Int32} {kont : (Nat → Int32) → (Nat → Nat → Int32) → Option (Int32 × MU)} {x : Int32} (hn : 200 ≤ n) (h : KL T t k IM RM L be he oi p I R I' R') (hL : L.length < 10) (hw : w < 2) (hv : v ≤ 99) (hx : ∀ cs, stp1 (w, v, cs) = cs.map kM ++ [x]) (hp : p < p1) (hp1 : p1 ≤ t) (hc : JC I R p1 (cds L) Ic R) (hm : JM k I' R' p1 (stp L) 0 Im R') :
    OutC T t k IM RM L.length kont ((p_Ni_readEitherT n t 0 Ic R).bind fun (x49, I47, R48) => (if x49 = 0 then some ((I47 4), I47, R48) else (p_Ni_addClause n t (nI w) (nI v) I47 R48).bind fun (I51, R52) => kont I51 R52)) ((p_Md_someT n Im R').bind fun (I23, R24) => (p_Md_emits n x I23 R24).bind fun (I26, R27) => some (I26, R27)) := by
  have h0 := h
  obtain ⟨H, h2, h3, ⟨b1, b2, b3⟩, ⟨l1, l2⟩, ⟨i1, i2, i3, i4⟩, h7, h8, h9, ⟨t1, t2, t3⟩, h11⟩ := h
  have ht := H.1
  have hk := H.2.1
  rcases y_whole H hn p1 (cds L) (stp L) Ic R Im R' hp1 (by omega) (by omega) hc hm with ⟨I1, R1, I2, R2, p', cs, c1, c2, c3, c4, c5, c6, c7, c8⟩ | ⟨I1, R1, I2, R2, p', c1, c2, c3, c4, c5⟩
  · obtain ⟨R4, z1, z2⟩ := y_emit (n := n) (v := x) H (by rw [List.length_append, List.length_map]; omega) c8
    have z3 := z2
    rw [List.append_assoc, ← hx cs] at z3
    have ff : F2 k I' R' I2 R4 := F2_t F2_r z2.1
    obtain ⟨I6, R6, x1, x2⟩ := y_ext (n := n) h0 hL (w := w) (v := v) (cs := cs) ⟨by dsimp only; omega, hv, fun _ => c6 0 (by omega), fun x => absurd x (by dsimp only; omega)⟩ (by omega) c4 (by omega) (by rw [hx, List.length_append, List.length_map, List.length_singleton]; omega) c7 (JM_self z3) (F2_t h11 z2.1) ff
      (by rw [if_neg (by omega), z2.1.2.2 (170 + k) (by omega) (by omega)]; exact t1)
      (by rw [if_neg (by omega), z2.1.2.2 (175 + k) (by omega) (by omega)]; exact t2)
      (by rw [if_neg (by omega), z2.1.2.2 (180 + k) (by omega) (by omega)]; exact t3)
    refine Or.inl ⟨I6, R6, I2, R4, p', _, _, _, _, ?_, ?_, x2, by rw [List.length_append]; rfl⟩
    · rw [c1, Option.bind_some]
      dsimp only
      rw [if_neg (show ¬ (1 : Int32) = 0 by decide), x1]; rfl
    · rw [c2, Option.bind_some]
      dsimp only
      rw [z1]; rfl
  · refine Or.inr ⟨I1, R1, I2, R2, p', ?_, ?_, c3, F2_t h11 c5.1, c5.2.1, c5.2.2⟩
    · rw [c1, Option.bind_some]
      dsimp only
      rw [if_pos (show (0 : Int32) = 0 from rfl), c4]
    · rw [c2, Option.bind_some]
      dsimp only
      rw [y_emitW c5]; rfl
theorem y_slow {n p : Nat} {L : List Cls} {be he oi : Nat} {I : Nat → Int32} {R : Nat → Nat → Int32} {I' : Nat → Int32} {R' : Nat → Nat → Int32} {kont : (Nat → Int32) → (Nat → Nat → Int32) → Option (Int32 × MU)} (hn : 200 ≤ n) (h : KL T t k IM RM L be he oi p I R I' R') (hL : L.length < 10)
    (hr : p_Ni_readWord n t I R = (p_Ni_takeAll n t 0 I R).bind fun (x, I1, R1) => (if x = 0 then some (-1) else some (nI 0) : Option Int32).bind fun y => some (y, I1, R1)) :
    OutC T t k IM RM L.length kont (cBody n t kont I R) (mSlow n I' R') := by
  have h0 := h
  obtain ⟨H, h2, h3, ⟨b1, b2, b3⟩, ⟨l1, l2⟩, ⟨i1, i2, i3, i4⟩, h7, h8, h9, ⟨t1, t2, t3⟩, h11⟩ := h
  obtain ⟨I2, m1, m2⟩ := y_spells (n := n) (v := 7) H (by omega) (by decide) h2 h9
  have hq : tkL T t (bytS.getD 0 [] ++ [32]) p = tkL T t (bytS.getD 7 []) p := rfl
  have fail3 : ∀ q I3 x, WM k I' R' q I3 R' → ((p_Md_someT n I3 R').bind fun (I23, R24) => (p_Md_emits n x I23 R24).bind fun (I26, R27) => some (I26, R27)) = some (I3, R') := by
    intro q I3 x hW
    rw [y_wholeW hn hW, Option.bind_some]
    dsimp only
    rw [y_emitW hW]; rfl
  have fail : ∀ q, WM k I' R' q I2 R' → ∃ I5, mSlow n I' R' = some (I5, R') ∧ F2 k IM RM I5 R' ∧ I5 5 = nI q ∧ I5 7 = 1 := by
    intro q hW
    obtain ⟨y, I5, g1, g2⟩ := y_figW (n := n) (by omega) hW
    obtain ⟨I6, g3, g4⟩ := y_mustW (n := n) (v := 32) g2
    refine ⟨I6, ?_, F2_t h11 g4.1, g4.2.1, g4.2.2⟩
    unfold mSlow
    rw [m1, Option.bind_some]
    dsimp only
    rw [g1, Option.bind_some]
    dsimp only
    rw [g3, Option.bind_some]
    exact fail3 q I6 _ g4
  rcases y_cw (n := n) H hn (show 0 < 12 by decide) h2 h8 hq.symm with ⟨I1, c1, c2, c3, c4⟩ | ⟨I1, c1, c2, c3, c4, c5⟩ | ⟨I1, I3, c1, c2, c3, c4, c5, c6⟩
  · rcases m2 with ⟨x, _⟩ | ⟨_, m3⟩
    · rw [c2] at x; cases x
    · obtain ⟨I5, f1, f2, f3, f4⟩ := fail _ m3
      rw [c1] at hr
      rw [cB_f (I1 := I1) (R1 := R) (by rw [hr]; rfl)]
      exact Or.inr ⟨I1, R, I5, R', _, by rw [c3.2.2.1], f1, c4, f2, f3, f4⟩
  · rcases m2 with ⟨x, _⟩ | ⟨_, m3⟩
    · rw [c3] at x; cases x
    · obtain ⟨I5, f1, f2, f3, f4⟩ := fail _ m3
      rw [c1] at hr
      rw [cB_s (I1 := I1) (R1 := R) (by rw [hr]; rfl), c2, Option.bind_some]
      exact Or.inr ⟨I1, R, I5, R', _, by rw [← c4.2.2.1]; rfl, f1, c5, f2, f3, f4⟩
  · rcases m2 with ⟨_, m3⟩ | ⟨x, _⟩
    · rw [c1] at hr
      rw [cB_s (I1 := I1) (R1 := R) (by rw [hr]; rfl), c2, Option.bind_some]
      dsimp only
      rw [if_neg (show ¬ (1 : Int32) = 0 by decide)]
      unfold mSlow
      rw [m1, Option.bind_some]
      dsimp only
      rcases y_num (n := n) H (by omega) c6 c4 m3 with ⟨v', p', I4, I5, hv', q1, q2, q3, q4, q5, q6⟩ | ⟨y, I5, q3, q4, q5⟩
      · rw [q3, q4, Option.bind_some, Option.bind_some]
        dsimp only
        rw [Option.bind_some]
        dsimp only
        rw [if_pos (nI_pos' (by omega))]
        rcases y_take (n := n) H (show (32 : Int32) ≠ -1 by decide) q2 q5 with ⟨a, b, e, g⟩ | ⟨a, e⟩
        · rcases y_must (n := n) (v := 32) H q2 q6 with ⟨a', I7, e', g'⟩ | ⟨a', I7, e', g'⟩
          · rw [e, e', Option.bind_some, Option.bind_some]
            dsimp only
            rw [if_neg (show ¬ (1 : Int32) = 0 by decide)]
            exact y_tail hn h0 hL (by omega) hv' (fun cs => rfl) (by omega) b g g'
          · exact absurd a a'
        · rcases y_must (n := n) (v := 32) H q2 q6 with ⟨a', I7, e', g'⟩ | ⟨a', I7, e', g'⟩
          · exact absurd a' a
          · rw [e, e', Option.bind_some, Option.bind_some]
            dsimp only
            rw [if_pos (show (0 : Int32) = 0 from rfl)]
            exact Or.inr ⟨I4, R, I7, R', p', by rw [q5.2.2.1], fail3 p' I7 _ g', q2, F2_t h11 g'.1, g'.2.1, g'.2.2⟩
      · obtain ⟨I6, g3, g4⟩ := y_mustW (n := n) (v := 32) q5
        rw [q3, q4, Option.bind_some, Option.bind_some]
        dsimp only
        rw [Option.bind_some]
        dsimp only
        rw [if_neg (show ¬ (0 : Int32) ≤ -1 by decide), g3, Option.bind_some]
        exact Or.inr ⟨I3, R, I6, R', _, by rw [c4.2.2.1], fail3 _ I6 _ g4, c6, F2_t h11 g4.1, g4.2.1, g4.2.2⟩
    · rw [c3] at x; cases x
theorem y_bar {n p pm : Nat} {L : List Cls} {be he oi : Nat} {I : Nat → Int32} {R : Nat → Nat → Int32} {I' Im : Nat → Int32} {R' : Nat → Nat → Int32} {kont : (Nat → Int32) → (Nat → Nat → Int32) → Option (Int32 × MU)} (hn : 200 ≤ n) (h : KL T t k IM RM L be he oi p I R I' R') (hL : L.length < 10)
    (hr : p_Ni_readWord n t I R = (p_Ni_takeAll n t 3 I R).bind fun (x, I1, R1) => (if x = 0 then some (-1) else some (nI 1) : Option Int32).bind fun y => some (y, I1, R1)) (hpm : pm ≤ t) (hm : JM k I' R' pm (stp L) 0 Im R') (hq : tkL T t (bytS.getD 3 [] ++ [32]) p = tkL T t (bytS.getD 8 []) pm) :
    OutC T t k IM RM L.length kont (cBody n t kont I R) (mBar n Im R') := by
  have h0 := h
  obtain ⟨H, h2, h3, ⟨b1, b2, b3⟩, ⟨l1, l2⟩, ⟨i1, i2, i3, i4⟩, h7, h8, h9, ⟨t1, t2, t3⟩, h11⟩ := h
  obtain ⟨I2, m1, m2⟩ := y_spells (n := n) (v := 8) H (by omega) (by decide) hpm hm
  have fail : ∀ q, WM k I' R' q I2 R' → mBar n Im R' = some (I2, R') := by
    intro q hW
    unfold mBar
    rw [m1, Option.bind_some]
    dsimp only
    rw [y_wholeW hn hW, Option.bind_some]
    dsimp only
    rw [y_emitW hW]; rfl
  rcases y_cw (n := n) H hn (show 3 < 12 by decide) h2 h8 hq.symm with ⟨I1, c1, c2, c3, c4⟩ | ⟨I1, c1, c2, c3, c4, c5⟩ | ⟨I1, I3, c1, c2, c3, c4, c5, c6⟩
  · rcases m2 with ⟨x, _⟩ | ⟨_, m3⟩
    · rw [c2] at x; cases x
    · rw [c1] at hr
      rw [cB_f (I1 := I1) (R1 := R) (by rw [hr]; rfl)]
      exact Or.inr ⟨I1, R, I2, R', _, by rw [c3.2.2.1], fail _ m3, c4, F2_t h11 m3.1, m3.2.1, m3.2.2⟩
  · rcases m2 with ⟨x, _⟩ | ⟨_, m3⟩
    · rw [c3] at x; cases x
    · rw [c1] at hr
      rw [cB_b (I1 := I1) (R1 := R) (by rw [hr]; rfl), c2, Option.bind_some]
      exact Or.inr ⟨I1, R, I2, R', _, by rw [← c4.2.2.1]; rfl, fail _ m3, c5, F2_t h11 m3.1, m3.2.1, m3.2.2⟩
  · rcases m2 with ⟨_, m3⟩ | ⟨x, _⟩
    · rw [c1] at hr
      rw [cB_b (I1 := I1) (R1 := R) (by rw [hr]; rfl), c2, Option.bind_some]
      dsimp only
      rw [if_neg (show ¬ (1 : Int32) = 0 by decide)]
      unfold mBar
      rw [m1, Option.bind_some]
      dsimp only
      exact y_tail (v := 0) hn h0 hL (by omega) (by omega) (fun cs => rfl) c5 c6 c4 m3
    · rw [c3] at x; cases x
end yy
