/-! ===== the law: what its start gives ===== -/
theorem lw_K {s : State} {args : Array Value} (hT : ∀ w ∈ WT, w.before args s = true) (h1 : va_AO "LanternBridge$Walker" s) (h2 : va_AOA .int s) : ∃ (dC : Nat → ClassId) (dI : Nat → Nat → Nat) (cI cZ cW cJ : ClassId), cK dC dI cI cZ cW cJ s := by
  obtain ⟨c0, i0, k0⟩ := u_known (C := R_Ca) (T := F_Ca) (N := 5) (n := 5) hT uw_Ca (hT _ ia_Ca)
  obtain ⟨c1, i1, k1⟩ := u_known (C := R_Go) (T := F_Go) (N := 8) (n := 8) hT uw_Go (hT _ ia_Go)
  obtain ⟨c2, i2, k2⟩ := u_known (C := R_La) (T := F_La) (N := 5) (n := 5) hT uw_La (hT _ ia_La)
  obtain ⟨c3, i3, k3⟩ := u_known (C := R_Le) (T := F_Le) (N := 5) (n := 5) hT uw_Le (hT _ ia_Le)
  obtain ⟨c4, i4, k4⟩ := u_known (C := R_Ni) (T := F_Ni) (N := 11) (n := 11) hT uw_Ni (hT _ ia_Ni)
  obtain ⟨c5, i5, k5⟩ := u_known (C := R_Qu) (T := F_Qu) (N := 5) (n := 5) hT uw_Qu (hT _ ia_Qu)
  obtain ⟨c6, i6, k6⟩ := u_known (C := R_Se) (T := F_Se) (N := 3) (n := 3) hT uw_Se (hT _ ia_Se)
  obtain ⟨c7, i7, k7⟩ := u_known (C := R_St) (T := F_St) (N := 15) (n := 15) hT uw_St (hT _ ia_St)
  obtain ⟨c8, i8, k8⟩ := u_known (C := R_Ti) (T := F_Ti) (N := 5) (n := 5) hT uw_Ti (hT _ ia_Ti)
  obtain ⟨c9, i9, k9⟩ := u_known (C := R_Tr) (T := F_Tr) (N := 5) (n := 5) hT uw_Tr (hT _ ia_Tr)
  obtain ⟨c10, i10, k10⟩ := u_known (C := R_Wa) (T := F_Wa) (N := 5) (n := 5) hT uw_Wa (hT _ ia_Wa)
  obtain ⟨c11, i11, k11⟩ := u_known (C := R_LB) (T := F_LB) (N := 7) (n := 7) hT uw_LB (hT _ ia_LB)
  obtain ⟨c12, i12, k12⟩ := u_known (C := R_Md) (T := F_Md) (N := 24) (n := 24) hT uw_Md (hT _ ia_Md)
  obtain ⟨cI, kI, pI, fI, gI, eI⟩ := Cond.arrayClass_spec (hT _ w1_90)
  obtain ⟨cZ, kZ, pZ, fZ, gZ, eZ⟩ := Cond.arrayClass_spec (hT _ w1_209)
  obtain ⟨pW, cW, kW, f1, -, gW, eW, fW⟩ := Cond.arrayOver_spec h1
  obtain ⟨pJ, cJ, kJ, f2, -, gJ, eJ, fJ⟩ := Jvm.Stand.arrayOver_specB h2
  refine ⟨fun k => if k = 0 then c0 else if k = 1 then c1 else if k = 2 then c2 else if k = 3 then c3 else if k = 4 then c4 else if k = 5 then c5 else if k = 6 then c6 else if k = 7 then c7 else if k = 8 then c8 else if k = 9 then c9 else if k = 10 then c10 else if k = 11 then c11 else c12, fun k => if k = 0 then i0 else if k = 1 then i1 else if k = 2 then i2 else if k = 3 then i3 else if k = 4 then i4 else if k = 5 then i5 else if k = 6 then i6 else if k = 7 then i7 else if k = 8 then i8 else if k = 9 then i9 else if k = 10 then i10 else if k = 11 then i11 else i12, cI, cZ, cW, cJ, fun k q hq => ?_, fun k q hq => ?_⟩
  · rcases k with _ | _ | _ | _ | _ | _ | _ | _ | _ | _ | _ | _ | _ | k
    · cases hq; exact k0
    · cases hq; exact k1
    · cases hq; exact k2
    · cases hq; exact k3
    · cases hq; exact k4
    · cases hq; exact k5
    · cases hq; exact k6
    · cases hq; exact k7
    · cases hq; exact k8
    · cases hq; exact k9
    · cases hq; exact k10
    · cases hq; exact k11
    · cases hq; exact k12
    · simp [CL] at hq
  · rcases k with _ | _ | _ | _ | k
    · cases hq; exact ⟨fun n z => ⟨fun k h => (by cases h), kI, gI, pI, eI⟩, fI⟩
    · cases hq; exact ⟨fun n z => ⟨fun k h => (by cases h), kZ, gZ, pZ, eZ⟩, fZ⟩
    · cases hq; exact ⟨fun n z => ⟨fun k h => (by cases h), kW, gW, pW, eW⟩, kW, pW, gW, eW, f1, fW⟩
    · cases hq; exact ⟨fun n z => ⟨fun k h => (by cases h), kJ, gJ, pJ, eJ⟩, fJ⟩
    · simp at hq
def tmS (i : Nat) : Term := if i = 0 then .string "LanternBridge$Night" 82 else if i = 1 then .string "LanternBridge$Night" 88 else if i = 2 then .string "LanternBridge$Night" 89 else if i = 3 then .string "LanternBridge$Night" 90 else if i = 4 then .string "LanternBridge$Night" 92 else if i = 5 then .string "LanternBridge$Night" 116 else if i = 6 then .string "LanternBridge$Night" 122 else if i = 7 then .string "LanternBridgeModel" 119 else if i = 8 then .string "LanternBridgeModel" 111 else if i = 9 then .string "LanternBridgeModel" 113 else if i = 10 then .string "LanternBridgeModel" 124 else .string "LanternBridgeModel" 126
def fl1 : List Cond := flatC (Jvm.Cond.and given_1 narrow_1)
theorem fm_ex : ∀ i, i < 12 → Cond.exactly (tmS i) "java/lang/String" ∈ fl1 := by decide +kernel
theorem fm_co : ∀ i, i < 12 → Cond.eq (.field (tmS i) "java/lang/String" "coder" "B") (.int 0) ∈ fl1 := by decide +kernel
theorem fm_ar : ∀ i, i < 12 → Cond.arrayOf (.field (tmS i) "java/lang/String" "value" "[B") .byte ∈ fl1 := by decide +kernel
theorem fm_le : ∀ i, i < 12 → Cond.eq (.length (.field (tmS i) "java/lang/String" "value" "[B")) (.int (Int32.ofNat (lenS.getD i 0))) ∈ fl1 := by decide +kernel
theorem fm_el : ∀ i, i < 12 → ∀ j, j < lenS.getD i 0 → Cond.eq (.elem (.field (tmS i) "java/lang/String" "value" "[B") (.int (Int32.ofNat j))) (.int ((bytS.getD i []).getD j 0)) ∈ fl1 := by decide +kernel
