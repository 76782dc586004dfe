/-! ===== the texts are apart ===== -/
theorem fm_ne0 : ∀ j, j < 12 → 0 < j → (Cond.not (Cond.eq (tmS 0) (tmS j)) ∈ fl1 ∨ Cond.not (Cond.eq (tmS j) (tmS 0)) ∈ fl1) := by decide +kernel
theorem fm_ne1 : ∀ j, j < 12 → 1 < j → (Cond.not (Cond.eq (tmS 1) (tmS j)) ∈ fl1 ∨ Cond.not (Cond.eq (tmS j) (tmS 1)) ∈ fl1) := by decide +kernel
theorem fm_ne2 : ∀ j, j < 12 → 2 < j → (Cond.not (Cond.eq (tmS 2) (tmS j)) ∈ fl1 ∨ Cond.not (Cond.eq (tmS j) (tmS 2)) ∈ fl1) := by decide +kernel
theorem fm_ne3 : ∀ j, j < 12 → 3 < j → (Cond.not (Cond.eq (tmS 3) (tmS j)) ∈ fl1 ∨ Cond.not (Cond.eq (tmS j) (tmS 3)) ∈ fl1) := by decide +kernel
theorem fm_ne4 : ∀ j, j < 12 → 4 < j → (Cond.not (Cond.eq (tmS 4) (tmS j)) ∈ fl1 ∨ Cond.not (Cond.eq (tmS j) (tmS 4)) ∈ fl1) := by decide +kernel
theorem fm_ne5 : ∀ j, j < 12 → 5 < j → (Cond.not (Cond.eq (tmS 5) (tmS j)) ∈ fl1 ∨ Cond.not (Cond.eq (tmS j) (tmS 5)) ∈ fl1) := by decide +kernel
theorem fm_ne6 : ∀ j, j < 12 → 6 < j → (Cond.not (Cond.eq (tmS 6) (tmS j)) ∈ fl1 ∨ Cond.not (Cond.eq (tmS j) (tmS 6)) ∈ fl1) := by decide +kernel
theorem fm_ne7 : ∀ j, j < 12 → 7 < j → (Cond.not (Cond.eq (tmS 7) (tmS j)) ∈ fl1 ∨ Cond.not (Cond.eq (tmS j) (tmS 7)) ∈ fl1) := by decide +kernel
theorem fm_ne8 : ∀ j, j < 12 → 8 < j → (Cond.not (Cond.eq (tmS 8) (tmS j)) ∈ fl1 ∨ Cond.not (Cond.eq (tmS j) (tmS 8)) ∈ fl1) := by decide +kernel
theorem fm_ne9 : ∀ j, j < 12 → 9 < j → (Cond.not (Cond.eq (tmS 9) (tmS j)) ∈ fl1 ∨ Cond.not (Cond.eq (tmS j) (tmS 9)) ∈ fl1) := by decide +kernel
theorem fm_ne10 : ∀ j, j < 12 → 10 < j → (Cond.not (Cond.eq (tmS 10) (tmS j)) ∈ fl1 ∨ Cond.not (Cond.eq (tmS j) (tmS 10)) ∈ fl1) := by decide +kernel
