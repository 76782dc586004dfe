/-! ===== step: night ===== -/
theorem Nit_cg2 {E : PE} {nn : Nat} {s s' : Nat → Int32} {k : Nat} {L : List Cls} {be he oi : Nat} (hk : k < 5) (h5 : s' 5 = s 5) (h : ∀ j, 170 ≤ j → j ≠ 170 + k → j ≠ 175 + k → j ≠ 180 + k → j ≠ 185 + k → ¬ (190 + 140 * k ≤ j ∧ j < 330 + 140 * k) → s' j = s j) (hN : Nit E nn s k L be he oi) : Nit E nn s' k L be he oi := by
  obtain ⟨a1, a2, a3, a4, a5, a6⟩ := hN
  have hak : ∀ act, act < 5 → s 5 = nI act → act < k := by
    intro act ha he
    rcases a6 with b | ⟨act', b1, b2⟩
    · rw [b] at he
      exact absurd (show nI act < 0 by rw [← he]; decide) (nI_pos (by omega))
    · rw [he] at b2
      have := (nI_eq (by omega) (by omega)).mp b2
      omega
  refine ⟨a1, a2, ⟨a3.1, a3.2.1, ?_⟩, ⟨a4.1, a4.2.1, a4.2.2.1, ?_⟩, a5, ?_⟩
  · rw [h5]
    rcases a3.2.2 with b | ⟨act, b1, b2, b3, b4, b5⟩
    · exact Or.inl b
    · have := hak act b1 b2
      exact Or.inr ⟨act, b1, b2, by rw [h _ (by omega) (by omega) (by omega) (by omega) (by omega) (by omega)]; exact b3, b4, fun j hj => by rw [h _ (by omega) (by omega) (by omega) (by omega) (by omega) (by omega)]; exact b5 j hj⟩
  · rw [h5]
    rcases a4.2.2.2 with b | ⟨act, b1, b2, b3, b4, b5⟩
    · exact Or.inl b
    · have := hak act b1 b2
      exact Or.inr ⟨act, b1, b2, by rw [h _ (by omega) (by omega) (by omega) (by omega) (by omega) (by omega)]; exact b3, by rw [h _ (by omega) (by omega) (by omega) (by omega) (by omega) (by omega)]; exact b4, by rw [h _ (by omega) (by omega) (by omega) (by omega) (by omega) (by omega)]; exact b5⟩
  · rw [h5]; exact a6
theorem Ex_N {E : PE} {a : Nat} {an : Nat → Nat} {tl : Nat} {I : Nat → Int32} {R : Nat → Nat → Int32} (h : eN E a = false) : Ex E (addN E a an tl I R) := by
  refine ⟨fun b hb => ⟨hb, rfl, rfl⟩, fun b hb => ?_⟩
  have hne : b ≠ a := fun e => by rw [e, h] at hb; exact absurd hb (by decide)
  refine ⟨?_, ?_, ?_, ?_⟩
  · show (if b = a then true else _) = true
    rw [if_neg hne]; exact hb
  · show (if b = a then tl else _) = _
    rw [if_neg hne]; rfl
  · show (if b = a then I else _) = _
    rw [if_neg hne]; rfl
  · show (if b = a then R else _) = _
    rw [if_neg hne]; rfl
def nMI (I : Nat → Int32) (k t : Nat) : Nat → Int32 := upd (upd (upd (upd (upd I 4 (nI k)) 6 (nI t)) 5 0) 7 0) 8 0
def nMR (R : Nat → Nat → Int32) (k : Nat) : Nat → Nat → Int32 := upR (upR (upR (upR (upR R 1 4 0) 1 (170 + k) 2) 1 (175 + k) 99) 1 (180 + k) 0) 1 (185 + k) 0
def nMf (x : MU) : Option (Int32 × MU) := if (x.1 7) = 0 then (if (x.1 5) = (x.1 6) then some ((x.1 4), x.1, (upR (upR x.2 1 1 ((x.2 1 1) + 1)) 1 5 (x.1 4))) else some (((-10) - (x.1 5)), x.1, x.2)) else some (((-10) - (x.1 5)), x.1, x.2)
theorem y_tlt {t : Nat} (h : t ≤ 100) : nTl (nI t) 100 = t := by
  unfold nTl
  have e1 : jmin (nI t) (nI 100) = nI t := if_neg (nI_nlt h (by omega))
  have e2 : jmax 0 (nI t) = nI t := by
    unfold jmax
    by_cases q : t = 0
    · subst q; rfl
    · exact if_pos (show nI 0 < nI t from nI_lt (by omega) (by omega))
  rw [e1, e2]; exact nI_clamp (by omega)
theorem y_md {n k t : Nat} {I : Nat → Int32} {R : Nat → Nat → Int32} (hk : k < 5) (h1 : R 1 1 = nI k) (h4 : R 1 4 = nI t) : p_Md_night n I R = ((p_Md_clauseHere n (nMI I k t) (nMR R k)).bind fun (I6, R7) => l_Md_night_118 n n 1 I6 R7).bind nMf := by
  unfold p_Md_night
  rw [h1, h4, if_neg (show ¬ nI k = 5 from fun e => absurd ((nI_eq (a := k) (b := 5) (by omega) (by omega)).mp e) (by omega))]
  have e4 : upd (upd I 4 (nI k)) 6 (nI t) 4 = nI k := by rw [y_ud (by decide), pk_us]
  simp only [e4]
  rw [show (170 : Int32) + nI k = nI (170 + k) from nI_add 170 k, show (175 : Int32) + nI k = nI (175 + k) from nI_add 175 k, show (180 : Int32) + nI k = nI (180 + k) from nI_add 180 k, show (185 : Int32) + nI k = nI (185 + k) from nI_add 185 k, if_pos (nI_in (by omega) (by omega)), if_pos (nI_in (by omega) (by omega)), if_pos (nI_in (by omega) (by omega)), if_pos (nI_in (by omega) (by omega)), nI_clamp (by omega), nI_clamp (by omega), nI_clamp (by omega), nI_clamp (by omega), Option.bind_assoc]
  rfl
theorem st_night {n : Nat} {E : PE} {F G : Nat → Nat → Int32} {P : Nat → Nat → Option Nat} {N : Nat → Nat} {I : Nat → Int32} {R : Nat → Nat → Int32} (hn : 200 ≤ n) (h : RL E F G P N I R) : ∃ r0 I1 R1, (¬ 5 ≤ F 1 3 → p_Ni_read n (nTl (F 1 1) 100) nI0 (nR0 (G 6) (nTl (F 1 1) 100)) = some (r0, I1, R1)) ∧ ∀ r u E', post_night F G P N E r0 I1 R1 r u E' → ∃ I' R', p_Md_night n I R = some (r, I', R') ∧ RL E' u.1 u.2.1 u.2.2.1 u.2.2.2 I' R' := by
  have h' := h
  obtain ⟨m, k, r, b, t, w, a, L, be, he, oi, h⟩ := h
  obtain ⟨⟨n1, n2, n3, n4, n5, n6, n7⟩, ⟨y1, y1'⟩, ⟨y2, y2'⟩, ⟨y3, y3'⟩, ⟨y4, y4'⟩, ⟨y5, y5'⟩, ⟨y6, y6'⟩, ⟨y7, y7'⟩, y8, y9⟩ := h.1.1
  by_cases hk5 : k = 5
  · subst hk5
    have hF : 5 ≤ F 1 3 := by rw [y2']; decide
    refine ⟨0, nI0, fun _ _ => 0, fun q => absurd hF q, fun r' u E' hp => ?_⟩
    rcases hp with ⟨_, p2, p3, p4⟩ | ⟨p1, _⟩ | ⟨p1, _⟩
    · subst p2 p3 p4
      refine ⟨I, R, ?_, h'⟩
      unfold p_Md_night
      rw [y2, if_pos (show nI 5 = 5 from rfl)]
    · exact absurd hF p1
    · exact absurd hF p1
  have hk : k < 5 := by omega
  have hF : ¬ 5 ≤ F 1 3 := by rw [y2']; exact nI_ge (b := 5) hk (by omega)
  have hT := h.1.2.2.1.2.2
  have hG : ∀ j, j < t → nR0 (G 6) t 3 j = G 6 j := fun j hj => by
    show va_cpy (G 6) (fun _ => 0) 0 0 t j = _
    unfold va_cpy
    rw [if_pos (by omega), Nat.zero_add, Nat.sub_zero]
  have hR4 : ∀ j, j ≠ 4 → j ≠ 170 + k → j ≠ 175 + k → j ≠ 180 + k → j ≠ 185 + k → nMR R k 1 j = R 1 j := fun j a b c d e => by
    unfold nMR
    rw [q_upE (fun x => e x.2), q_upE (fun x => d x.2), q_upE (fun x => c x.2), q_upE (fun x => b x.2), q_upE (fun x => a x.2)]
  have hRq : ∀ q, q ≠ 1 → nMR R k q = R q := fun q hq => by unfold nMR; rw [q_upN hq, q_upN hq, q_upN hq, q_upN hq, q_upN hq]
  have hI : ∀ i, i ≠ 4 → i ≠ 5 → i ≠ 6 → i ≠ 7 → i ≠ 8 → nMI I k t i = I i := fun i a b c d e => by unfold nMI; rw [y_ud e, y_ud d, y_ud b, y_ud c, y_ud a]
  have hK : KL (fun j => (G 6 j).toNatClampNeg) t k (nMI I k t) (nMR R k) [] 2 99 0 0 nI0 (nR0 (G 6) t) (nMI I k t) (nMR R k) := by
    refine ⟨⟨n5, hk, fun j hj => ?_, ?_, ?_⟩, by omega, fun c hc => absurd hc (by simp), ⟨by omega, by omega, by omega⟩, ⟨by simp [cds], by simp [stp]⟩, ⟨rfl, rfl, rfl, rfl⟩, fun i c hc => absurd hc (by simp), ⟨fun _ _ _ => rfl, fun _ _ => rfl, rfl, rfl, fun j hj => absurd hj (by simp [cds])⟩, ⟨FM_r, ?_, ?_, ?_, ?_, fun j hj => absurd hj (by simp [stp])⟩, ⟨?_, ?_, ?_⟩, F2_r⟩
    · obtain ⟨c, u1, u2, u3⟩ := hT j hj
      dsimp only
      rw [hG j hj, hR4 (70 + j) (by omega) (by omega) (by omega) (by omega) (by omega), u2, u3, nI_clamp (by omega)]
      exact ⟨u1, rfl, rfl⟩
    · unfold nMI
      rw [y_ud (by decide), y_ud (by decide), y_ud (by decide), y_ud (by decide), pk_us]
    · unfold nMI
      rw [y_ud (by decide), y_ud (by decide), y_ud (by decide), pk_us]
    · unfold nMI
      rw [y_ud (by decide), y_ud (by decide), pk_us]; rfl
    · unfold nMI
      rw [y_ud (by decide), pk_us]
    · unfold nMI
      rw [pk_us]; rfl
    · unfold nMR
      rw [q_upV]; rfl
    · unfold nMR
      rw [q_upE (by omega), q_upE (by omega), q_upE (by omega), q_upV]; rfl
    · unfold nMR
      rw [q_upE (by omega), q_upE (by omega), q_upV]; rfl
    · unfold nMR
      rw [q_upE (by omega), q_upV]; rfl
  have hMd := y_md (n := n) (I := I) hk y2 y5
  obtain ⟨⟨z1, z2, z3, z4⟩, im, tr, sl⟩ := h
  rw [y5', y_tlt n5]
  rcases y_night hn hK with ⟨I1, R1, I2, R2, L', be', he', oi', c1, c2, c3, c4⟩ | ⟨I1, R1, I2, R2, p', c1, c2, c3, c4, c5, c6⟩
  · refine ⟨-1, I1, R1, fun _ => c1, fun r' u E' hp => ?_⟩
    rcases hp with ⟨p1, _⟩ | ⟨_, p2, _⟩ | ⟨_, _, na, an, g1, g2, g3, g4⟩
    · exact absurd p1 hF
    · exact absurd (show (-1 : Int32) < 0 by decide) p2
    · obtain ⟨k1, k2, k3, ⟨kb1, kb2, kb3⟩, ⟨kl1, kl2⟩, ⟨ki1, ki2, ki3, ki4⟩, k7, k8, k9, ⟨kt1, kt2, kt3⟩, k11⟩ := c3
      rw [y5', y_tlt n5] at g4
      have f2 : ∀ j, j ≠ 4 → j ≠ 170 + k → j ≠ 175 + k → j ≠ 180 + k → j ≠ 185 + k → ¬ (190 + 140 * k ≤ j ∧ j < 330 + 140 * k) → R2 1 j = R 1 j := fun j a b c d e f => by rw [k11.2.2 j b c d e f, hR4 j a b c d e]
      have e4 : I2 4 = nI k := k1.2.2.2.1
      have eM : p_Md_night n I R = some (nI k, I2, upR (upR R2 1 1 (nI (k + 1))) 1 5 (nI k)) := by
        rw [hMd, c2, Option.bind_some]
        unfold nMf
        dsimp only
        rw [if_pos k9.2.2.1, if_pos (by rw [k9.2.1]; exact k1.2.2.2.2.symm), e4, f2 1 (by omega) (by omega) (by omega) (by omega) (by omega) (by omega), y2, nI_1]
      have e3 : upR F 1 1 0 1 3 + 1 = nI (k + 1) := by rw [q_upE (by omega), y2', nI_1]
      rw [e3] at g2 g3
      have er : r' = nI k := by rw [g2, q_upN (by decide), q_upV, nI_pred]
      refine ⟨_, _, by rw [er]; exact eM, ?_⟩
      subst g3 g4
      dsimp only
      have hE : Ex E (addN E na an t I1 R1) := Ex_N g1
      have F1 : ∀ j, j ≠ 1 → j ≠ 3 → (upR (upR (upR F 1 1 0) 1 3 (nI (k + 1))) 0 6 1) 1 j = F 1 j := fun j a b => by rw [q_upN (by decide), q_upE (fun x => b x.2), q_upE (fun x => a x.2)]
      have S : ∀ j, j ≠ 1 → j ≠ 4 → j ≠ 5 → j < 170 → (upR (upR R2 1 1 (nI (k + 1))) 1 5 (nI k)) 1 j = R 1 j := fun j a b c d => by rw [q_upE (fun x => c x.2), q_upE (fun x => a x.2), f2 j b (by omega) (by omega) (by omega) (by omega) (by omega)]
      have S2 : ∀ j, 170 ≤ j → (upR (upR R2 1 1 (nI (k + 1))) 1 5 (nI k)) 1 j = R2 1 j := fun j a => by rw [q_upE (by omega), q_upE (by omega)]
      have s1 : (upR (upR R2 1 1 (nI (k + 1))) 1 5 (nI k)) 1 1 = nI (k + 1) := by rw [q_upE (by omega), q_upV]
      have s5 : (upR (upR R2 1 1 (nI (k + 1))) 1 5 (nI k)) 1 5 = nI k := q_upV
      have s4 : (upR (upR R2 1 1 (nI (k + 1))) 1 5 (nI k)) 1 4 = nI 0 := by
        rw [q_upE (by omega), q_upE (by omega), k11.2.2 4 (by omega) (by omega) (by omega) (by omega) (by omega)]
        unfold nMR
        rw [q_upE (by omega), q_upE (by omega), q_upE (by omega), q_upE (by omega), q_upV]; rfl
      have rq : ∀ q, q ≠ 1 → (upR (upR R2 1 1 (nI (k + 1))) 1 5 (nI k)) q = R q := fun q hq => by rw [q_upN hq, q_upN hq, k11.2.1 q hq, hRq q hq]
      have iq : ∀ i, i ≠ 4 → i ≠ 5 → i ≠ 6 → i ≠ 7 → i ≠ 8 → I2 i = I i := fun i a b c d e => by rw [k11.1 i b d e, hI i a b c d e]
      generalize (upR (upR R2 1 1 (nI (k + 1))) 1 5 (nI k)) = R3 at S S2 s1 s5 s4 rq
      have hAg : sAg (R 1) (R3 1) := fun j a b => S j (by omega) (by omega) (by omega) (by omega)
      refine ⟨m, k + 1, r, b, 0, w, a, L', be', he', oi', ⟨⟨⟨n1, by omega, n3, n4, by omega, n6, n7⟩, ⟨by rw [S 0 (by omega) (by omega) (by omega) (by omega)]; exact y1, by rw [F1 5 (by omega) (by omega)]; exact y1'⟩, ⟨s1, by rw [q_upN (by decide), q_upV]⟩, ⟨by rw [S 2 (by omega) (by omega) (by omega) (by omega)]; exact y3, by rw [F1 12 (by omega) (by omega)]; exact y3'⟩, ⟨by rw [S 3 (by omega) (by omega) (by omega) (by omega)]; exact y4, by rw [F1 14 (by omega) (by omega)]; exact y4'⟩, ⟨s4, by rw [q_upN (by decide), q_upE (by omega), q_upV]; rfl⟩, ⟨by rw [S 8 (by omega) (by omega) (by omega) (by omega)]; exact y6, by rw [F1 7 (by omega) (by omega)]; exact y6'⟩, ⟨by rw [S 9 (by omega) (by omega) (by omega) (by omega)]; exact y7, by rw [F1 6 (by omega) (by omega)]; exact y7'⟩, by rw [S 6 (by omega) (by omega) (by omega) (by omega), F1 8 (by omega) (by omega)]; exact y8, by rw [S 7 (by omega) (by omega) (by omega) (by omega), F1 9 (by omega) (by omega)]; exact y9⟩, Ppl_Ex hE (Ppl_cg hAg n1 z2), ⟨fun j hj => ?_, fun j hj => ?_, fun j hj => absurd hj (by omega)⟩, ?_⟩, ?_, ?_, Or.inl q_upV⟩
      · rw [S (34 + j) (by omega) (by omega) (by omega) (by omega), S (46 + j) (by omega) (by omega) (by omega) (by omega)]
        exact z3.1 j hj
      · rw [S (58 + j) (by omega) (by omega) (by omega) (by omega)]
        exact z3.2.1 j hj
      · have na1 : upN N 1 na 1 = na := by simp only [upN, va_up, if_true]
        rw [na1]
        have a1 : eN (addN E na an t I1 R1) na = true := by
          show (if na = na then true else _) = true
          rw [if_pos rfl]
        have a2 : eT (addN E na an t I1 R1) na = t := by
          show (if na = na then t else _) = t
          rw [if_pos rfl]
        have a3 : eI (addN E na an t I1 R1) na = I1 := by
          show (if na = na then I1 else _) = I1
          rw [if_pos rfl]
        have a4 : eR (addN E na an t I1 R1) na = R1 := by
          show (if na = na then R1 else _) = R1
          rw [if_pos rfl]
        refine ⟨a1, ?_, ⟨k3, c4, Or.inr ⟨k, hk, s5, by rw [S2 _ (by omega)]; exact k9.2.2.2.2.1, by omega, fun j hj => by rw [S2 _ (by omega)]; exact k9.2.2.2.2.2 j hj⟩⟩, ⟨kb1, kb2, kb3, Or.inr ⟨k, hk, s5, by rw [S2 _ (by omega)]; exact kt1, by rw [S2 _ (by omega)]; exact kt2, by rw [S2 _ (by omega)]; exact kt3⟩⟩, ?_, Or.inr ⟨k, by omega, s5⟩⟩
        · rw [a2, a3, a4]
          exact ⟨k3, c4, ki1, n5, kl1, k7, k8.2.2.2.2⟩
        · rw [a3]; exact ⟨ki2, ki3, ki4⟩
      · have im2 := Img_Ex hE im
        unfold Img at im2 ⊢
        rw [rq 2 (by decide), iq 3 (by decide) (by decide) (by decide) (by decide) (by decide), q_upE (show ¬ ((0 : Nat) = 0 ∧ 2 = 6) by omega), q_upN (show (0 : Nat) ≠ 1 by decide), q_upN (show (0 : Nat) ≠ 1 by decide), q_upN (show (2 : Nat) ≠ 0 by decide), q_upN (show (2 : Nat) ≠ 1 by decide), q_upN (show (2 : Nat) ≠ 1 by decide), show upN N 1 na 2 = N 2 by simp only [upN, va_up, if_neg (show ¬ (2 : Nat) = 1 by decide)]]
        exact im2
      · unfold Trc at tr ⊢
        rw [rq 19 (by decide), iq 20 (by decide) (by decide) (by decide) (by decide) (by decide)]
        exact tr
  · refine ⟨nI p', I1, R1, fun _ => c1, fun r' u E' hp => ?_⟩
    rcases hp with ⟨p1, _⟩ | ⟨_, _, g1, g2, g3⟩ | ⟨_, p2, _⟩
    · exact absurd p1 hF
    · have f2 : ∀ j, j ≠ 4 → j ≠ 170 + k → j ≠ 175 + k → j ≠ 180 + k → j ≠ 185 + k → ¬ (190 + 140 * k ≤ j ∧ j < 330 + 140 * k) → R2 1 j = R 1 j := fun j a b c d e f => by rw [c4.2.2 j b c d e f, hR4 j a b c d e]
      have eM : p_Md_night n I R = some (-10 - nI p', I2, R2) := by
        rw [hMd, c2, Option.bind_some]
        unfold nMf
        dsimp only
        rcases c6 with q | ⟨q, q2⟩
        · rw [if_neg (show ¬ I2 7 = 0 by rw [q]; decide), c5]
        · have e6 : I2 6 = nI t := by
            rw [c4.1 6 (by decide) (by decide) (by decide)]
            unfold nMI
            rw [y_ud (by decide), y_ud (by decide), y_ud (by decide), pk_us]
          rw [if_pos q, if_neg (show ¬ I2 5 = I2 6 by rw [e6, c5]; exact fun e => q2 ((nI_eq (by omega) (by omega)).mp e)), c5]
      subst g1 g2 g3
      refine ⟨_, _, eM, ?_⟩
      dsimp only
      have F1 : ∀ j, j ≠ 1 → upR F 1 1 0 1 j = F 1 j := fun j a => by rw [q_upE (fun x => a x.2)]
      have S : ∀ j, j ≠ 4 → j < 170 → R2 1 j = R 1 j := fun j b d => f2 j b (by omega) (by omega) (by omega) (by omega) (by omega)
      have s4 : R2 1 4 = nI 0 := by
        rw [c4.2.2 4 (by omega) (by omega) (by omega) (by omega) (by omega)]
        unfold nMR
        rw [q_upE (by omega), q_upE (by omega), q_upE (by omega), q_upE (by omega), q_upV]; rfl
      have rq : ∀ q, q ≠ 1 → R2 q = R q := fun q hq => by rw [c4.2.1 q hq, hRq q hq]
      have iq : ∀ i, i ≠ 4 → i ≠ 5 → i ≠ 6 → i ≠ 7 → i ≠ 8 → I2 i = I i := fun i a b c d e => by rw [c4.1 i b d e, hI i a b c d e]
      have hAg : sAg (R 1) (R2 1) := fun j a b => S j (by omega) (by omega)
      refine ⟨m, k, r, b, 0, w, a, L, be, he, oi, ⟨⟨⟨n1, n2, n3, n4, by omega, n6, n7⟩, ⟨by rw [S 0 (by omega) (by omega)]; exact y1, by rw [F1 5 (by omega)]; exact y1'⟩, ⟨by rw [S 1 (by omega) (by omega)]; exact y2, by rw [F1 3 (by omega)]; exact y2'⟩, ⟨by rw [S 2 (by omega) (by omega)]; exact y3, by rw [F1 12 (by omega)]; exact y3'⟩, ⟨by rw [S 3 (by omega) (by omega)]; exact y4, by rw [F1 14 (by omega)]; exact y4'⟩, ⟨s4, q_upV⟩, ⟨by rw [S 8 (by omega) (by omega)]; exact y6, by rw [F1 7 (by omega)]; exact y6'⟩, ⟨by rw [S 9 (by omega) (by omega)]; exact y7, by rw [F1 6 (by omega)]; exact y7'⟩, by rw [S 6 (by omega) (by omega), F1 8 (by omega)]; exact y8, by rw [S 7 (by omega) (by omega), F1 9 (by omega)]; exact y9⟩, Ppl_cg hAg n1 z2, ⟨fun j hj => ?_, fun j hj => ?_, fun j hj => absurd hj (by omega)⟩, Nit_cg2 hk (S 5 (by omega) (by omega)) (fun j j0 j1 j2 j3 j4 j5 => f2 j (by omega) j1 j2 j3 j4 j5) z4⟩, ?_, ?_, Stl_cg hAg n1 (q_upE (by omega)) (q_upN (by decide)) rfl rfl (fun _ _ => rfl) sl⟩
      · rw [S (34 + j) (by omega) (by omega), S (46 + j) (by omega) (by omega)]
        exact z3.1 j hj
      · rw [S (58 + j) (by omega) (by omega)]
        exact z3.2.1 j hj
      · unfold Img at im ⊢
        rw [rq 2 (by decide), iq 3 (by decide) (by decide) (by decide) (by decide) (by decide), q_upN (show (0 : Nat) ≠ 1 by decide), q_upN (show (2 : Nat) ≠ 1 by decide)]
        exact im
      · unfold Trc at tr ⊢
        rw [rq 19 (by decide), iq 20 (by decide) (by decide) (by decide) (by decide) (by decide)]
        exact tr
    · exact absurd p2 (nI_pos (by omega))
