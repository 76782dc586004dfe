/-! ===== the law: texts and kinds at its start ===== -/
theorem fm_ne {i j : Nat} (hi : i < 12) (hj : j < 12) (h : i < j) : Cond.not (Cond.eq (tmS i) (tmS j)) ∈ fl1 ∨ Cond.not (Cond.eq (tmS j) (tmS i)) ∈ fl1 := by
  rcases (by omega : i = 0 ∨ i = 1 ∨ i = 2 ∨ i = 3 ∨ i = 4 ∨ i = 5 ∨ i = 6 ∨ i = 7 ∨ i = 8 ∨ i = 9 ∨ i = 10) with rfl | rfl | rfl | rfl | rfl | rfl | rfl | rfl | rfl | rfl | rfl
  · exact fm_ne0 j hj h
  · exact fm_ne1 j hj h
  · exact fm_ne2 j hj h
  · exact fm_ne3 j hj h
  · exact fm_ne4 j hj h
  · exact fm_ne5 j hj h
  · exact fm_ne6 j hj h
  · exact fm_ne7 j hj h
  · exact fm_ne8 j hj h
  · exact fm_ne9 j hj h
  · exact fm_ne10 j hj h
theorem fm_c1 : Cond.eq (Term.static "java/lang/String" "COMPACT_STRINGS" "Z") (Term.int 1) ∈ fl1 := by decide +kernel
theorem fm_c2 : Cond.isRef (Term.static "jdk/internal/util/Preconditions" "SIOOBE_FORMATTER" "Ljava/util/function/BiFunction;") ∈ fl1 := by decide +kernel
theorem fm_c3 : Cond.eq (Term.string "LanternBridge$Night" 116) (Term.string "LanternBridgeModel" 93) ∈ fl1 := by decide +kernel
theorem fm_c4 : Cond.eq (Term.string "LanternBridge$Night" 122) (Term.string "LanternBridgeModel" 99) ∈ fl1 := by decide +kernel
theorem fm_sr : ∀ q ∈ tL, Cond.stringRef q.1 q.2.1 q.2.2.1 ∈ lw_tbl := by decide +kernel
theorem fm_l1 : Cond.laysStatic "java/lang/String" "COMPACT_STRINGS" "Z" ∈ lw_tbl := by decide +kernel
theorem fm_l2 : Cond.laysStatic "jdk/internal/util/Preconditions" "SIOOBE_FORMATTER" "Ljava/util/function/BiFunction;" ∈ lw_tbl := by decide +kernel
theorem fm_i1 : Cond.initialized "java/lang/String" ∈ lw_tbl := by decide +kernel
theorem fm_i2 : Cond.initialized "jdk/internal/util/Preconditions" ∈ lw_tbl := by decide +kernel
theorem lw_T {s : State} {args : Array Value} (hts : ∀ w ∈ lw_tbl, w.before args s = true) (hg : (Jvm.Cond.and given_1 narrow_1).before args s = true) : ∃ adK adV : Nat → Nat, tS adK adV (fun q => s.heap.size ≤ q) s s.heap ∧ tR adK s := by
  have f : ∀ c ∈ fl1, c.before args s = true := flat_of_before _ hg
  have hA : ∀ a : Nat, a < s.heap.size → ¬ (fun q => s.heap.size ≤ q) a := fun a ha => Nat.not_le.mpr ha
  obtain ⟨adK, adV, h1, h2⟩ := vk_Sof (args := args) (s := s) (N := 12) (tm := tmS) (len := lenS) (byt := bytS) (A := fun q => s.heap.size ≤ q) (by decide +kernel) (fun i hi => f _ (fm_ex i hi)) (fun i hi => f _ (fm_co i hi)) (fun i hi => f _ (fm_ar i hi)) (fun i hi => f _ (fm_le i hi)) (fun i hi j hj => f _ (fm_el i hi j hj)) (fun i j hi hj hij => by
    rcases Nat.lt_or_gt_of_ne hij with h | h
    · exact (fm_ne hi hj h).imp (f _) (f _)
    · exact ((fm_ne hj hi h).imp (f _) (f _)).symm) hA
  refine ⟨adK, adV, ⟨h1, va_Zof (hts _ fm_l1) (hts _ fm_i1) (va_eqt (f _ fm_c1)) hA, va_Zqof (hts _ fm_l2) (hts _ fm_i2) (f _ fm_c2) hA⟩, ?_⟩
  have e5 : (Term.string "LanternBridgeModel" 93).eval args s none [] s = some (.ref (adK 5)) := by
    obtain ⟨y, a1, a2⟩ := Cond.eq_one (f _ fm_c3)
    have := h2 5 (by decide)
    rw [a2, ← this]
    exact a1.symm
  have e6 : (Term.string "LanternBridgeModel" 99).eval args s none [] s = some (.ref (adK 6)) := by
    obtain ⟨y, a1, a2⟩ := Cond.eq_one (f _ fm_c4)
    have := h2 6 (by decide)
    rw [a2, ← this]
    exact a1.symm
  have g : ∀ q ∈ tL, (Term.string q.1 q.2.1).eval args s none [] s = some (.ref (adK q.2.2.2)) := by
    intro q hq
    simp only [tL, List.mem_cons, List.not_mem_nil, or_false] at hq
    rcases hq with rfl | rfl | rfl | rfl | rfl | rfl | rfl | rfl | rfl | rfl | rfl | rfl | rfl | rfl
    · exact h2 0 (by decide)
    · exact h2 1 (by decide)
    · exact h2 2 (by decide)
    · exact h2 3 (by decide)
    · exact h2 4 (by decide)
    · exact h2 5 (by decide)
    · exact h2 6 (by decide)
    · exact h2 7 (by decide)
    · exact e5
    · exact e6
    · exact h2 8 (by decide)
    · exact h2 9 (by decide)
    · exact h2 10 (by decide)
    · exact h2 11 (by decide)
  exact fun q hq => vk_R.of (hts _ (fm_sr q hq)) (g q hq)
theorem asg_t {C T : String} {s : State} {args : Array Value} {c t : ClassId} (hc : s.vm.findClass C = some c) (ht : s.vm.findClass T = some t) (h : (Cond.castable C T).before args s = true) : asg C T true s := ⟨c, t, hc, ht, by simpa [Cond.before, Cond.holds, Cond.value, hc, ht] using h⟩
theorem asg_f {C T : String} {s : State} {args : Array Value} {c t : ClassId} (hc : s.vm.findClass C = some c) (ht : s.vm.findClass T = some t) (h : (Cond.not (Cond.castable C T)).before args s = true) : asg C T false s := ⟨c, t, hc, ht, by simpa [Cond.before, Cond.holds, Cond.value, hc, ht] using h⟩
theorem asg_r {C : String} {s : State} {c : ClassId} (hc : s.vm.findClass C = some c) : asg C C true s := ⟨c, c, hc, hc, Vm.assignable_self _ _⟩
theorem fm_yes : ∀ c ∈ wcl, ∀ t ∈ wcl, c ≠ t → wUn c t = true → Cond.castable (wNm c) (wNm t) ∈ lw_tbl := by decide +kernel
theorem fm_no : ∀ c ∈ wcl, ∀ t ∈ wcl, wUn c t = false → Cond.not (Cond.castable (wNm c) (wNm t)) ∈ fl1 := by decide +kernel
theorem wUn_r (c : Nat) : wUn c c = true := by simp [wUn]
theorem fm_in : ∀ c ∈ wcl, Cond.instantiable (wNm c) 5 ∈ lw_tbl := by decide +kernel
theorem lw_I {s : State} {args : Array Value} (hts : ∀ w ∈ lw_tbl, w.before args s = true) (hg : (Jvm.Cond.and given_1 narrow_1).before args s = true) : iS s := by
  have f : ∀ c ∈ fl1, c.before args s = true := flat_of_before _ hg
  intro c hc t ht
  obtain ⟨c1, -, e1, -⟩ := Cond.instantiable_spec (hts _ (fm_in c hc))
  obtain ⟨c2, -, e2, -⟩ := Cond.instantiable_spec (hts _ (fm_in t ht))
  by_cases e : c = t
  · subst e
    rw [wUn_r]
    exact asg_r e1
  · cases hw : wUn c t with
    | true => exact asg_t e1 e2 (hts _ (fm_yes c hc t ht e hw))
    | false => exact asg_f e1 e2 (f _ (fm_no c hc t ht hw))
