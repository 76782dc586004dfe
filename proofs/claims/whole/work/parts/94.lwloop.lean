/-! ===== the law: its loop ===== -/
theorem lw_cmp {L i : Nat} (hL : L ≤ 320) (hi : i ≤ 400) : (nI L - 5 < nI i) ↔ L < i + 5 := by
  by_cases h : 5 ≤ L
  · obtain ⟨a, rfl⟩ : ∃ a, L = a + 5 := ⟨L - 5, by omega⟩
    have e : nI (a + 5) - 5 = nI a := by
      rw [← nI_add a 5]
      exact Int32.add_sub_cancel (nI a) (nI 5)
    rw [e, nI_ltI (by omega) (by omega)]
    omega
  · have h1 : nI L - 5 < 0 := by
      rcases (by omega : L = 0 ∨ L = 1 ∨ L = 2 ∨ L = 3 ∨ L = 4) with rfl | rfl | rfl | rfl | rfl <;> decide
    exact ⟨fun _ => by omega, fun _ => Int32.lt_of_lt_of_le h1 (nI_pos' (by omega))⟩
theorem lw_31 (v : Int32) : ∃ y, y < 32 ∧ v &&& 31 = nI y := ⟨v.toBitVec.toNat % 2 ^ 5, Nat.mod_lt _ (by decide), pk_and v 5 (by decide : (31 : Int32).toBitVec.toNat = 2 ^ 5 - 1)⟩
theorem law_loop {p : Program} {l : Launch} {e : Env} {s : State} {m : MethodId} {below : List Frame} {meth : Method} {c : Code} {adK adV : Nat → Nat} {dC : Nat → ClassId} {dI : Nat → Nat → Nat} {adM adC : Nat → Nat} {cI cZ cW cJ : ClassId} {b L n : Nat} {xs : Nat → Int32} (hn : 300000000 ≤ n) (C : LC p s m #[Value.ref b] c dC dI cI cZ cW cJ adK adV) (hr : meth.sig.returnType = ret) (hlocks : meth.locks = false) (hX : va_X b L xs s s.heap) (hbl : b < s.heap.size) (hL : L ≤ 320) :
    ∀ (f i cells slots : Nat) (E : PE) (F G : Nat → Nat → Int32) (P : Nat → Nat → Option Nat) (N : Nat → Nat) (I : Nat → Int32) (R : Nat → Nat → Int32) (H : Heap) (locs : List Loc) (ls : Array Slot), i ≤ 330 → L < i + 5 * f → cells + 6 * f ≤ 600000 → slots + 241 * f ≤ 7302250 → LW s dC dI cI cZ cW cJ adM adC E F G P N I R H locs → RL E F G P N I R → lv_has ls 4 [(0, .ref b), (1, .ref (adC 0)), (2, .ref (adM 0)), (3, .int (nI i))] → W p l e room_1 s m #[Value.ref b] below meth c H locs cells slots (lw_Z below #[Value.ref b] s) (F0 m 18 ls []) := by
  have hx := C.1
  have hb := C.2.1
  have hbA : ¬ (fun q : Nat => s.heap.size ≤ q) b := Nat.not_le.mpr hbl
  intro f
  induction f with
  | zero =>
    intro i cells slots E F G P N I R H locs ls hi hf hc hs h hR hl
    refine lv_iload_n hx hb d_law_18 rfl (lv_at hl 3 rfl) ?_
    refine lv_aload_n hx hb d_law_19 rfl (lv_at hl 0 rfl) ?_
    refine va_slen hx hb hX hbl hbA h.2.2.2.2.2.1 d_law_20 ?_
    refine lv_iconst (v := 5) hx hb d_law_21 (by decide) ?_
    refine lv_isub hx hb d_law_22 ?_
    refine lv_icmp_gt (tgt := 850) hx hb d_law_23 (by decide) (fun hc1 => ?_) (fun hc1 => absurd ((lw_cmp hL (by omega)).mpr (by omega)) hc1)
    refine lv_iconst (v := 1) hx hb d_law_850 (by decide) ?_
    refine va_forget (fun q hq => h.2.2.2.2.2.1.2.2 q hq) ?_
    refine W.widen (k := 600000) (n := 7302250) (by omega) (by omega) ?_
    exact lw_ret hx hb hr hlocks d_law_851
  | succ f ih =>
    intro i cells slots E F G P N I R H locs ls hi hf hc hs h hR hl
    refine lv_iload_n hx hb d_law_18 rfl (lv_at hl 3 rfl) ?_
    refine lv_aload_n hx hb d_law_19 rfl (lv_at hl 0 rfl) ?_
    refine va_slen hx hb hX hbl hbA h.2.2.2.2.2.1 d_law_20 ?_
    refine lv_iconst (v := 5) hx hb d_law_21 (by decide) ?_
    refine lv_isub hx hb d_law_22 ?_
    refine lv_icmp_gt (tgt := 850) hx hb d_law_23 (by decide) (fun hc1 => ?_) (fun hc1 => ?_)
    · refine lv_iconst (v := 1) hx hb d_law_850 (by decide) ?_
      refine va_forget (fun q hq => h.2.2.2.2.2.1.2.2 q hq) ?_
      refine W.widen (k := 600000) (n := 7302250) (by omega) (by omega) ?_
      exact lw_ret hx hb hr hlocks d_law_851
    have hi5 : i + 5 ≤ L := by
      have h9 : ¬ L < i + 5 := fun q => hc1 ((lw_cmp hL (by omega)).mpr q)
      omega
    have hs2 : slots + 241 + 241 * f ≤ 7302250 := Nat.le_trans (Nat.le_of_eq (by rw [Nat.mul_succ, Nat.add_comm (241 * f) 241, Nat.add_assoc])) hs
    have hc2 : cells + 6 + 6 * f ≤ 600000 := by omega
    clear hs hc
    have hcs : cells + 6 ≤ room_1.cells ∧ slots + 241 ≤ room_1.slots := ⟨Nat.le_trans (Nat.le_add_right _ _) hc2, Nat.le_trans (Nat.le_add_right _ _) hs2⟩
    have cont : ∀ (E1 : PE) (F1 G1 : Nat → Nat → Int32) (P1 : Nat → Nat → Option Nat) (N1 : Nat → Nat) (I1 : Nat → Int32) (R1 : Nat → Nat → Int32) (H1 : Heap) (locs1 : List Loc), LW s dC dI cI cZ cW cJ adM adC E1 F1 G1 P1 N1 I1 R1 H1 locs1 → RL E1 F1 G1 P1 N1 I1 R1 → W p l e room_1 s m #[Value.ref b] below meth c H1 locs1 (cells + 6) (slots + 241) (lw_Z below #[Value.ref b] s) (F0 m 844 ls []) := by
      intro E1 F1 G1 P1 N1 I1 R1 H1 locs1 h1 hR1
      refine lv_iinc (v := nI (i + 5)) (lv' := [(3, .int (nI (i + 5))), (0, .ref b), (1, .ref (adC 0)), (2, .ref (adM 0))]) hx hb d_law_844 hl (k := 3) rfl (nI_add i 5) (by decide) rfl (fun ls hl => ?_)
      refine lv_goto (tgt := 18) hx hb d_law_847 (by decide) ?_
      exact ih (i + 5) (cells + 6) (slots + 241) E1 F1 G1 P1 N1 I1 R1 H1 locs1 ls (by omega) (by omega) hc2 hs2 h1 hR1 (lv_sub hl [1, 2, 3, 0] rfl)
    refine lv_aload_n hx hb d_law_26 rfl (lv_at hl 0 rfl) ?_
    refine lv_iload_n hx hb d_law_27 rfl (lv_at hl 3 rfl) ?_
    refine va_sld hx hb hX hbl hbA h.2.2.2.2.2.1 (vp_in_nI (by omega) (by omega)) d_law_28 ?_
    refine lv_bipush (v := 31) hx hb d_law_29 (by decide) ?_
    refine lv_iand hx hb d_law_31 ?_
    obtain ⟨y, hy, ey⟩ := lw_31 (xs (nI i).toNatClampNeg)
    rw [ey]
    rcases (by omega : y = 0 ∨ y = 1 ∨ y = 2 ∨ y = 3 ∨ y = 4 ∨ y = 5 ∨ y = 6 ∨ y = 7 ∨ y = 8 ∨ y = 9 ∨ y = 10 ∨ y = 11 ∨ y = 12 ∨ y = 13 ∨ y = 14 ∨ y = 15 ∨ y = 16 ∨ y = 17 ∨ y = 18 ∨ y = 19 ∨ y = 20 ∨ y = 21 ∨ y = 22 ∨ y = 23 ∨ y = 24 ∨ y = 25 ∨ y = 26 ∨ y = 27 ∨ y = 28 ∨ y = 29 ∨ y = 30 ∨ y = 31) with rfl | rfl | rfl | rfl | rfl | rfl | rfl | rfl | rfl | rfl | rfl | rfl | rfl | rfl | rfl | rfl | rfl | rfl | rfl | rfl | rfl | rfl | rfl | rfl | rfl | rfl | rfl | rfl | rfl | rfl | rfl | rfl
    · exact lv_tableIn (off := 116) (tgt := 148) hx hb d_law_32 (by decide) (by decide) (by decide) (by decide) (law_c0 hn C hX hbl h hR hi5 hL hl hcs cont)
    · exact lv_tableIn (off := 139) (tgt := 171) hx hb d_law_32 (by decide) (by decide) (by decide) (by decide) (law_c1 hn C hX hbl h hR hi5 hL hl hcs cont)
    · exact lv_tableIn (off := 152) (tgt := 184) hx hb d_law_32 (by decide) (by decide) (by decide) (by decide) (law_c2 hn C hX hbl h hR hi5 hL hl hcs cont)
    · exact lv_tableIn (off := 205) (tgt := 237) hx hb d_law_32 (by decide) (by decide) (by decide) (by decide) (law_c3 hn C hX hbl h hR hi5 hL hl hcs cont)
    · exact lv_tableIn (off := 238) (tgt := 270) hx hb d_law_32 (by decide) (by decide) (by decide) (by decide) (law_c4 hn C hX hbl h hR hi5 hL hl hcs cont)
    · exact lv_tableIn (off := 261) (tgt := 293) hx hb d_law_32 (by decide) (by decide) (by decide) (by decide) (law_c5 hn C hX hbl h hR hi5 hL hl hcs cont)
    · exact lv_tableIn (off := 304) (tgt := 336) hx hb d_law_32 (by decide) (by decide) (by decide) (by decide) (law_c6 hn C hX hbl h hR hi5 hL hl hcs cont)
    · exact lv_tableIn (off := 327) (tgt := 359) hx hb d_law_32 (by decide) (by decide) (by decide) (by decide) (law_c7 hn C hX hbl h hR hi5 hL hl hcs cont)
    · exact lv_tableIn (off := 350) (tgt := 382) hx hb d_law_32 (by decide) (by decide) (by decide) (by decide) (law_c8 hn C hX hbl h hR hi5 hL hl hcs cont)
    · exact lv_tableIn (off := 373) (tgt := 405) hx hb d_law_32 (by decide) (by decide) (by decide) (by decide) (law_c9 hn C hX hbl h hR hi5 hL hl hcs cont)
    · exact lv_tableIn (off := 396) (tgt := 428) hx hb d_law_32 (by decide) (by decide) (by decide) (by decide) (law_c10 hn C hX hbl h hR hi5 hL hl hcs cont)
    · exact lv_tableIn (off := 429) (tgt := 461) hx hb d_law_32 (by decide) (by decide) (by decide) (by decide) (law_c11 hn C hX hbl h hR hi5 hL hl hcs cont)
    · exact lv_tableIn (off := 452) (tgt := 484) hx hb d_law_32 (by decide) (by decide) (by decide) (by decide) (law_c12 hn C hX hbl h hR hi5 hL hl hcs cont)
    · exact lv_tableIn (off := 465) (tgt := 497) hx hb d_law_32 (by decide) (by decide) (by decide) (by decide) (law_c13 hn C hX hbl h hR hi5 hL hl hcs cont)
    · exact lv_tableIn (off := 498) (tgt := 530) hx hb d_law_32 (by decide) (by decide) (by decide) (by decide) (law_c14 hn C hX hbl h hR hi5 hL hl hcs cont)
    · exact lv_tableIn (off := 531) (tgt := 563) hx hb d_law_32 (by decide) (by decide) (by decide) (by decide) (law_c15 hn C hX hbl h hR hi5 hL hl hcs cont)
    · exact lv_tableIn (off := 564) (tgt := 596) hx hb d_law_32 (by decide) (by decide) (by decide) (by decide) (law_c16 hn C hX hbl h hR hi5 hL hl hcs cont)
    · exact lv_tableIn (off := 618) (tgt := 650) hx hb d_law_32 (by decide) (by decide) (by decide) (by decide) (law_c17 hn C hX hbl h hR hi5 hL hl hcs cont)
    · exact lv_tableIn (off := 641) (tgt := 673) hx hb d_law_32 (by decide) (by decide) (by decide) (by decide) (law_c18 hn C hX hbl h hR hi5 hL hl hcs cont)
    · exact lv_tableIn (off := 664) (tgt := 696) hx hb d_law_32 (by decide) (by decide) (by decide) (by decide) (law_c19 hn C hX hbl h hR hi5 hL hl hcs cont)
    · exact lv_tableIn (off := 707) (tgt := 739) hx hb d_law_32 (by decide) (by decide) (by decide) (by decide) (law_c20 hn C hX hbl h hR hi5 hL hl hcs cont)
    · exact lv_tableIn (off := 730) (tgt := 762) hx hb d_law_32 (by decide) (by decide) (by decide) (by decide) (law_c21 hn C hX hbl h hR hi5 hL hl hcs cont)
    · exact lv_tableIn (off := 763) (tgt := 795) hx hb d_law_32 (by decide) (by decide) (by decide) (by decide) (law_c22 hn C hX hbl h hR hi5 hL hl hcs cont)
    · exact lv_tableIn (off := 776) (tgt := 808) hx hb d_law_32 (by decide) (by decide) (by decide) (by decide) (law_c23 hn C hX hbl h hR hi5 hL hl hcs cont)
    · exact lv_tableIn (off := 789) (tgt := 821) hx hb d_law_32 (by decide) (by decide) (by decide) (by decide) (law_c24 hn C hX hbl h hR hi5 hL hl hcs cont)
    · exact lv_tableOut (tgt := 844) hx hb d_law_32 (by decide) (by decide) (W.widen (k := cells + 6) (n := slots + 241) (by omega) (by omega) (cont E F G P N I R H locs h hR))
    · exact lv_tableOut (tgt := 844) hx hb d_law_32 (by decide) (by decide) (W.widen (k := cells + 6) (n := slots + 241) (by omega) (by omega) (cont E F G P N I R H locs h hR))
    · exact lv_tableOut (tgt := 844) hx hb d_law_32 (by decide) (by decide) (W.widen (k := cells + 6) (n := slots + 241) (by omega) (by omega) (cont E F G P N I R H locs h hR))
    · exact lv_tableOut (tgt := 844) hx hb d_law_32 (by decide) (by decide) (W.widen (k := cells + 6) (n := slots + 241) (by omega) (by omega) (cont E F G P N I R H locs h hR))
    · exact lv_tableOut (tgt := 844) hx hb d_law_32 (by decide) (by decide) (W.widen (k := cells + 6) (n := slots + 241) (by omega) (by omega) (cont E F G P N I R H locs h hR))
    · exact lv_tableOut (tgt := 844) hx hb d_law_32 (by decide) (by decide) (W.widen (k := cells + 6) (n := slots + 241) (by omega) (by omega) (cont E F G P N I R H locs h hR))
    · exact lv_tableOut (tgt := 844) hx hb d_law_32 (by decide) (by decide) (W.widen (k := cells + 6) (n := slots + 241) (by omega) (by omega) (cont E F G P N I R H locs h hR))
