/-! ===== the fresh objects ===== -/
theorem st_init {E : PE} {N : Nat → Nat} (h : iniE E N) : RL E cF0 (fun _ _ => 0) (fun _ _ => none) N mI0 mR0 := by
  obtain ⟨⟨a1, a2, a3, a4⟩, -, -⟩ := h
  refine ⟨0, 0, 0, 0, 0, 0, 0, [], 2, 99, 0, ⟨⟨⟨by omega, by omega, by omega, by omega, by omega, by omega, by decide⟩, ⟨rfl, rfl⟩, ⟨rfl, rfl⟩, ⟨rfl, rfl⟩, ⟨rfl, rfl⟩, ⟨rfl, rfl⟩, ⟨rfl, rfl⟩, ⟨rfl, rfl⟩, rfl, rfl⟩, ⟨fun i hi => absurd hi (by omega), fun i hi => absurd hi (by omega), fun i hi => rfl⟩, ⟨fun j hj => absurd hj (by omega), fun j hj => absurd hj (by omega), fun j hj => absurd hj (by omega)⟩, a1, ?_, ⟨fun c hc => absurd hc (by simp), by decide, Or.inl ⟨rfl, rfl⟩⟩, ⟨by omega, by omega, by omega, Or.inl ⟨rfl, rfl, rfl, rfl⟩⟩, ?_, Or.inl rfl⟩, ⟨false, rfl, rfl, fun q => absurd q (by decide)⟩, ⟨0, by omega, rfl, rfl, fun j hj => absurd hj (by omega)⟩, Or.inl rfl⟩
  · rw [a2, a3, a4]
    exact ⟨fun c hc => absurd hc (by simp), by decide, rfl, by omega, by decide, fun i c hc => absurd hc (by simp), fun j hj => absurd hj (by simp [cds])⟩
  · rw [a3]; exact ⟨rfl, rfl, rfl⟩
