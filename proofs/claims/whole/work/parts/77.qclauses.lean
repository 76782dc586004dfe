/-! ===== the kinds of clause in step ===== -/
def OutC (T : Nat → Nat) (t k : Nat) (IM : Nat → Int32) (RM : Nat → Nat → Int32) (m : Nat) (kont : (Nat → Int32) → (Nat → Nat → Int32) → Option (Int32 × MU)) (rc : Option (Int32 × MU)) (rm : Option MU) : Prop :=
  (∃ I1 R1 I2 R2 p' L be he oi, rc = kont I1 R1 ∧ rm = some (I2, R2) ∧ KL T t k IM RM L be he oi p' I1 R1 I2 R2 ∧ L.length = m + 1) ∨ (∃ I1 R1 I2 R2 p', rc = some (nI p', I1, R1) ∧ rm = some (I2, R2) ∧ p' ≤ t ∧ F2 k IM RM I2 R2 ∧ I2 5 = nI p' ∧ I2 7 = 1)
section yy
variable {T : Nat → Nat} {t k : Nat} {IC : Nat → Int32} {RC : Nat → Nat → Int32} {IM : Nat → Int32} {RM : Nat → Nat → Int32}
theorem y_cw (H : An T t k RC IM RM) {n v p : Nat} {C : List Nat} {I : Nat → Int32} {R : Nat → Nat → Int32} (hn : 200 ≤ n) (hv : v < 12) (hp : p ≤ t) (h : JC IC RC p C I R) {q : Bool × Nat} (hq : q = tkL T t (bytS.getD v [] ++ [32]) p) :
    (∃ I1, p_Ni_takeAll n t v I R = some (0, I1, R) ∧ q.1 = false ∧ JC IC RC q.2 C I1 R ∧ q.2 ≤ t) ∨ (∃ I1, p_Ni_takeAll n t v I R = some (1, I1, R) ∧ p_Ni_take n t 32 I1 R = some (0, I1, R) ∧ q.1 = false ∧ JC IC RC q.2 C I1 R ∧ q.2 ≤ t) ∨ (∃ I1 I2, p_Ni_takeAll n t v I R = some (1, I1, R) ∧ p_Ni_take n t 32 I1 R = some (1, I2, R) ∧ q.1 = true ∧ JC IC RC q.2 C I2 R ∧ p < q.2 ∧ q.2 ≤ t) := by
  obtain ⟨I1, e1, e2, e3, e4⟩ := y_takeAll (n := n) H (by omega) hv hp h
  rw [tkL_app] at hq
  cases hb : (tkL T t (bytS.getD v []) p).1 with
  | false =>
    rw [hb, if_neg (show ¬ false = true by decide)] at hq
    rw [hb] at e1
    subst hq
    exact Or.inl ⟨I1, e1, hb, e2, e3⟩
  | true =>
    rw [hb, if_pos (show true = true from rfl)] at hq
    rw [hb] at e1
    generalize (tkL T t (bytS.getD v []) p).2 = p1 at hq e2 e3 e4
    rcases y_take (n := n) H (show (32 : Int32) ≠ -1 by decide) e3 e2 with ⟨a, b, e, g⟩ | ⟨a, e⟩
    · have : q = (true, p1 + 1) := by
        rw [hq]
        show (if (32 : Int32) = sg T t p1 then (true, p1 + 1) else (false, p1)) = _
        rw [if_pos a]
      subst this
      exact Or.inr (Or.inr ⟨I1, _, e1, e, rfl, g, by dsimp only; omega, b⟩)
    · have : q = (false, p1) := by
        rw [hq]
        show (if (32 : Int32) = sg T t p1 then (true, p1 + 1) else (false, p1)) = _
        rw [if_neg a]
      subst this
      exact Or.inr (Or.inl ⟨I1, e1, e, rfl, e2, e3⟩)
theorem y_tells {n w v vm p pm : Nat} {L : List Cls} {be he oi : Nat} {I : Nat → Int32} {R : Nat → Nat → Int32} {I' Im : Nat → Int32} {R' : Nat → Nat → Int32} {kont : (Nat → Int32) → (Nat → Nat → Int32) → Option (Int32 × MU)} (hn : 200 ≤ n) (hw : w = 2 ∨ w = 3 ∨ w = 4) (hv : v < 12) (hvm : vm < 12) (h : KL T t k IM RM L be he oi p I R I' R') (hL : L.length < 10)
    (hr : p_Ni_readWord n t I R = (p_Ni_takeAll n t v I R).bind fun (x, I1, R1) => (if x = 0 then some (-1) else some (nI w) : Option Int32).bind fun y => some (y, I1, R1)) (hpm : pm ≤ t) (hm : JM k I' R' pm (stp L) 0 Im R') (hq : tkL T t (bytS.getD v [] ++ [32]) p = tkL T t (bytS.getD vm []) pm) :
    OutC T t k IM RM L.length kont (cBody n t kont I R) (p_Md_tellsHere n (nI (160 + 5 * w)) vm Im R') := by
  have h0 := h
  obtain ⟨H, h2, h3, ⟨b1, b2, b3⟩, ⟨l1, l2⟩, ⟨i1, i2, i3, i4⟩, h7, h8, h9, ⟨t1, t2, t3⟩, h11⟩ := h
  obtain ⟨I2, m1, m2⟩ := y_spells (n := n) H (by omega) hvm hpm hm
  have hk := H.2.1
  have fail : ∀ q, WM k I' R' q I2 R' → ∃ I5, p_Md_tellsHere n (nI (160 + 5 * w)) vm Im R' = some (I5, R') ∧ F2 k IM RM I5 R' ∧ I5 5 = nI q ∧ I5 7 = 1 := by
    intro q hW
    obtain ⟨y, I5, g1, g2⟩ := y_figW (n := n) (by omega) hW
    refine ⟨I5, ?_, F2_t h11 g2.1, g2.2.1, g2.2.2⟩
    unfold p_Md_tellsHere
    rw [m1, Option.bind_some]
    dsimp only
    rw [g1, Option.bind_some]
    dsimp only
    rw [if_neg (show ¬ I5 7 = 0 by rw [g2.2.2]; decide)]
  rcases y_cw (n := n) H hn hv h2 h8 hq.symm with ⟨I1, c1, c2, c3, c4⟩ | ⟨I1, c1, c2, c3, c4, c5⟩ | ⟨I1, I3, c1, c2, c3, c4, c5, c6⟩
  · rcases m2 with ⟨x, _⟩ | ⟨_, m3⟩
    · rw [c2] at x; cases x
    · obtain ⟨I5, f1, f2, f3, f4⟩ := fail _ m3
      rw [c1] at hr
      rw [cB_f (I1 := I1) (R1 := R) (by rw [hr]; rfl)]
      exact Or.inr ⟨I1, R, I5, R', _, by rw [c3.2.2.1], f1, c4, f2, f3, f4⟩
  · rcases m2 with ⟨x, _⟩ | ⟨_, m3⟩
    · rw [c3] at x; cases x
    · obtain ⟨I5, f1, f2, f3, f4⟩ := fail _ m3
      rw [c1] at hr
      rw [cB_t (I1 := I1) (R1 := R) hw (by rw [hr]; rfl), c2, Option.bind_some]
      exact Or.inr ⟨I1, R, I5, R', _, by rw [← c4.2.2.1]; rfl, f1, c5, f2, f3, f4⟩
  · rcases m2 with ⟨_, m3⟩ | ⟨x, _⟩
    · rw [c1] at hr
      rw [cB_t (I1 := I1) (R1 := R) hw (by rw [hr]; rfl), c2, Option.bind_some]
      dsimp only
      rw [if_neg (show ¬ (1 : Int32) = 0 by decide)]
      rcases y_num (n := n) H (by omega) c6 c4 m3 with ⟨v', p', I4, I5, hv', q1, q2, q3, q4, q5, q6⟩ | ⟨y, I5, q3, q4, q5⟩
      · have e5 : nI (160 + 5 * w) + I5 4 = nI (160 + 5 * w + k) := by rw [q6.1.1 4 (by decide) (by decide) (by decide), H.2.2.2.1, nI_add]
        have eM : p_Md_tellsHere n (nI (160 + 5 * w)) vm Im R' = some (I5, upR R' 1 (160 + 5 * w + k) (nI v')) := by
          unfold p_Md_tellsHere
          rw [m1, Option.bind_some]
          dsimp only
          rw [q4, Option.bind_some]
          dsimp only
          rw [if_pos q6.2.2.1, e5, if_pos (nI_in (by omega) (by omega)), nI_clamp (by omega)]
        have hst : stp1 (w, v', ([] : List Nat)) = [] := by unfold stp1; rw [if_neg (by dsimp only; omega), if_neg (by dsimp only; omega)]
        have hM : JM k I5 (upR R' 1 (160 + 5 * w + k) (nI v')) p' (stp L ++ stp1 (w, v', ([] : List Nat))) 0 I5 (upR R' 1 (160 + 5 * w + k) (nI v')) := by
          rw [hst, List.append_nil]
          exact ⟨FM_r, q6.2.1, q6.2.2.1, q6.2.2.2.1, by rw [q_upE (by omega)]; exact q6.2.2.2.2.1, fun j hj => by rw [q_upE (by omega)]; exact q6.2.2.2.2.2 j hj⟩
        have hF0 : F2 k I' R' I5 (upR R' 1 (160 + 5 * w + k) (nI v')) := ⟨q6.1.1, fun r hr => by rw [q_upN hr], fun j a b c d e => by rw [q_upE (by omega)]⟩
        have hF : F2 k IM RM I5 (upR R' 1 (160 + 5 * w + k) (nI v')) := ⟨fun i a b c => (hF0.1 i a b c).trans (h11.1 i a b c), fun r hr => (hF0.2.1 r hr).trans (h11.2.1 r hr), fun j a b c d e => (hF0.2.2 j a b c d e).trans (h11.2.2 j a b c d e)⟩
        obtain ⟨I6, R6, x1, x2⟩ := y_ext (n := n) h0 hL (w := w) (v := v') (cs := []) ⟨by dsimp only; omega, hv', fun x => absurd x (by dsimp only; omega), fun _ => rfl⟩ (by omega) q2 (by simp only [List.length_nil]; omega) (by rw [hst]; simp only [List.length_nil]; omega) (by rw [List.append_nil]; exact q5) hM hF hF0
          (by rcases hw with rfl | rfl | rfl
              · exact q_upV
              · rw [q_upE (by omega)]; exact t1
              · rw [q_upE (by omega)]; exact t1)
          (by rcases hw with rfl | rfl | rfl
              · rw [q_upE (by omega)]; exact t2
              · exact q_upV
              · rw [q_upE (by omega)]; exact t2)
          (by rcases hw with rfl | rfl | rfl
              · rw [q_upE (by omega)]; exact t3
              · rw [q_upE (by omega)]; exact t3
              · exact q_upV)
        refine Or.inl ⟨I6, R6, I5, _, p', _, _, _, _, ?_, eM, x2, by rw [List.length_append]; rfl⟩
        rw [q3, Option.bind_some]
        dsimp only
        rw [Option.bind_some]
        dsimp only
        rw [if_pos (nI_pos' (by omega)), x1]; rfl
      · refine Or.inr ⟨I3, R, I5, R', _, ?_, ?_, c6, F2_t h11 q5.1, q5.2.1, q5.2.2⟩
        · rw [q3, Option.bind_some]
          dsimp only
          rw [Option.bind_some]
          dsimp only
          rw [if_neg (show ¬ (0 : Int32) ≤ -1 by decide), c4.2.2.1]
        · unfold p_Md_tellsHere
          rw [m1, Option.bind_some]
          dsimp only
          rw [q4, Option.bind_some]
          dsimp only
          rw [if_neg (show ¬ I5 7 = 0 by rw [q5.2.2]; decide)]
    · rw [c3] at x; cases x
end yy
