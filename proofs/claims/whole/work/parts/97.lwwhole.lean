/-! ===== the law: its start ===== -/
theorem fm_a1 : Cond.arrayOver (.object "LanternBridge$Walker") ∈ lw_tbl := by decide +kernel
theorem fm_a2 : Cond.arrayOver (.array .int) ∈ lw_tbl := by decide +kernel
theorem fm_n1 : Cond.methodLinkNest "LanternBridge" 11 y_St_init "LanternBridge" ∈ lw_tbl := by decide +kernel
theorem fm_n2 : Cond.methodLinkNest "LanternBridge" 27 y_Go_init "LanternBridge" ∈ lw_tbl := by decide +kernel
theorem whole_start {p : Program} {e : Env} {s : State} {m : MethodId} {below : List Frame} {meth : Method} {c : Code} (l : Launch) (hflags : l.flags = flags0) {b L : Nat} {xs : Nat → Int32} (hL : L ≤ 320) (C0 : lw_At p s m meth c b L xs) : W p l e room_1 s m #[Value.ref b] below meth c s.heap [] 0 0 (lw_Z below #[Value.ref b] s) (entryFrame m ([Value.ref b] : List Value).toArray 4) := by
  obtain ⟨hx, hb, hr, hml, hown, hts, hX, hbl, hlocks, hgv⟩ := id C0
  have hT : ∀ w ∈ WT, w.before #[Value.ref b] s = true := fun w hw => hts w (wt_tbl hw)
  have hAO : va_AO "LanternBridge$Walker" s := va_AO.of (hts _ fm_a1)
  have hAOA : va_AOA .int s := hts _ fm_a2
  have hn1 : va_Nw (.methodLinkNest "LanternBridge" 11 y_St_init "LanternBridge") s := va_Nw.of rfl (hts _ fm_n1)
  have hn2 : va_Nw (.methodLinkNest "LanternBridge" 27 y_Go_init "LanternBridge") s := va_Nw.of rfl (hts _ fm_n2)
  obtain ⟨dC, dI, cI, cZ, cW, cJ, hK⟩ := lw_K hT hAO hAOA
  obtain ⟨adK, adV, hTS, hTR⟩ := lw_T hts hgv
  have hIS := lw_I hts hgv
  have C : LC p s m #[Value.ref b] c dC dI cI cZ cW cJ adK adV := ⟨hx, hb, hml, hown, hT, hK, hTS, hTR, hIS⟩
  have hA : ∀ q : Nat, s.heap.size ≤ q → (fun q : Nat => s.heap.size ≤ q) q := fun _ h => h
  have hP0 : va_P (dC, dI) CL [] s.heap := fun k q h => by simp at h
  have hD0 : va_D (fun q : Nat => s.heap.size ≤ q) [] := ⟨fun i j p q h => by simp at h, fun k q h => by simp at h⟩
  have hl := lv_entry ([.ref b]) (n := 4) (Nat.le_of_ble_eq_true rfl)
  rw [lg_entry_eq]
  generalize (lg_sl ([.ref b]) ++ List.replicate (4 - (lg_sl ([.ref b])).length) Slot.unset).toArray = ls at hl ⊢
  have hl : lv_has ls 4 [(0, .ref b)] := hl
  refine va_new (ci := 11) (fs := [.null, .null, .int 0, .null, .null, .null, .int 0]) (C := R_LB) (T := F_LB) (N := 7) hx hb hT uw_LB ty_LB ok_LB hown (hT _ kl_law_7) (hT _ ia_LB) (hT _ ini_LB) hK hP0 hD0 va_S.rf hA rfl (fun j hj => by rcases (show j = 0 ∨ j = 1 ∨ j = 2 ∨ j = 3 ∨ j = 4 ∨ j = 5 ∨ j = 6 by omega) with rfl | rfl | rfl | rfl | rfl | rfl | rfl <;> rfl) (Nat.le_of_ble_eq_true rfl) (Nat.le_of_ble_eq_true rfl) d_law_0 (fun a H hP hD hS => ?_)
  have hP : va_P (dC, dI) CL [(a, .inr (11, [.null, .null, .int 0, .null, .null, .null, .int 0]))] H := hP
  have hD : va_D (fun q : Nat => s.heap.size ≤ q) [(a, .inr (11, [.null, .null, .int 0, .null, .null, .null, .int 0]))] := hD
  have hF := va_free (wc := [(a, .inr (11, [.null, .null, .int 0, .null, .null, .null, .int 0]))]) hD hS hA [0] rfl
  refine lv_dup hx hb d_law_3 rfl ?_
  refine va_callv (va_runI (As := []) (rest := [.ref a]) ⟨hx, hb, hml, hown, hT⟩ (c_LB_init l dC dI cI cZ cW cJ a H.size) ⟨callB_of 0 hT (goodW cd_LB_init) rfl rfl rfl (hT _ ini_LB) (hT _ ml_law_9) ⟨by decide +kernel, by decide +kernel, by decide +kernel⟩ ⟨Nat.le_of_ble_eq_true rfl, Nat.le_of_ble_eq_true rfl⟩, rfl, hT _ im_LB_init⟩ ⟨fun a U g mk q => ⟨q.1, q.2.1, q.2.2.1, va_K.moved (u := U) (U := U.calling g mk a) (Vm.Alike.refl U.vm) q.2.2.2.1, q.2.2.2.2.1, q.2.2.2.2.2.1.moved (u := U) (U := U.calling g mk a) (Vm.Alike.refl U.vm), q.2.2.2.2.2.2.1.moved (u := U) (U := U.calling g mk a) (Vm.Alike.refl U.vm), va_Nw.same (u := U) (U := U.calling g mk a) rfl rfl q.2.2.2.2.2.2.2.1, va_Nw.same (u := U) (U := U.calling g mk a) rfl rfl q.2.2.2.2.2.2.2.2⟩, fun U hU hW => ⟨rfl, by rw [hU], by rw [hU]; exact hP, va_K.moved hW.alike hK, hD.weaken (fun _ _ _ _ => trivial), hAO.moved hW.alike, hAOA.moved hW.alike, hn1.warmM hW, hn2.warmM hW⟩⟩ rfl rfl hl.1 rfl (lv_room (Nat.le_of_ble_eq_true rfl)) d_law_4 ⟨Nat.le_of_ble_eq_true rfl, Nat.le_of_ble_eq_true rfl⟩) hS (fun q _ h => hF q h) hF (fun u t H1 locs1 ht hvm hw hB hz1 hk1 hS => ?_)
  obtain ⟨adC, N, E⟩ := u
  obtain ⟨e0, hP1, hK1, hD1, hpS⟩ := hB
  dsimp only at e0 hP1 hD1 hpS hw
  rw [ht] at hP1 hpS
  have hD1 : va_D (fun q : Nat => s.heap.size ≤ q) (cX adC cI cZ cW cJ cF0 (fun _ _ => 0) (fun _ _ => none) N) := hD1.weaken (fun _ q _ hq => hF _ hq)
  refine lv_astore_n (lv' := [(1, .ref a), (0, .ref b)]) hx hb d_law_7 rfl hl (by decide) rfl (fun ls hl => ?_)
  refine va_forget (fun q hq => hS.2.2 q hq) ?_
  have hD1' : va_D (fun q : Nat => H1.size ≤ q ∨ inC adC q) (cX adC cI cZ cW cJ cF0 (fun _ _ => 0) (fun _ _ => none) N) := ⟨hD1.1, fun k q hk => Or.inr (fixA_iff.mp ⟨k, q.2, hk⟩)⟩
  refine va_new (ci := 12) (fs := [.int 0, .null, .null, .int 0, .int 0, .int 0, .int 0, .int 0, .int 0, .null, .null, .int 0, .int 0, .null, .null, .null, .null, .int 0, .int 0, .null, .int 0, .int 0, .int 0, .int 0]) (C := R_Md) (T := F_Md) (N := 24) hx hb hT uw_Md ty_Md ok_Md hown (hT _ kl_law_10) (hT _ ia_Md) (hT _ ini_Md) hK hP1 hD1' va_S.rf (fun q h => Or.inl h) rfl (fun j hj => by rcases (show j = 0 ∨ j = 1 ∨ j = 2 ∨ j = 3 ∨ j = 4 ∨ j = 5 ∨ j = 6 ∨ j = 7 ∨ j = 8 ∨ j = 9 ∨ j = 10 ∨ j = 11 ∨ j = 12 ∨ j = 13 ∨ j = 14 ∨ j = 15 ∨ j = 16 ∨ j = 17 ∨ j = 18 ∨ j = 19 ∨ j = 20 ∨ j = 21 ∨ j = 22 ∨ j = 23 by omega) with rfl | rfl | rfl | rfl | rfl | rfl | rfl | rfl | rfl | rfl | rfl | rfl | rfl | rfl | rfl | rfl | rfl | rfl | rfl | rfl | rfl | rfl | rfl | rfl <;> rfl) (Nat.le_of_ble_eq_true rfl) (Nat.le_of_ble_eq_true rfl) d_law_8 (fun qm H2 hP2 hD2 hS2 => ?_)
  have nC : ∀ q, q < s.heap.size → ¬ inC adC q := fun q hq hc => by
    obtain ⟨k, e, hk⟩ := fixA_iff (ad := adC) (cI := cI) (cZ := cZ) (cW := cW) (cJ := cJ) (F := cF0) (G := fun _ _ => 0) (P := fun _ _ => none) (N := N) |>.mpr hc
    exact absurd (hD1.2 k _ hk) (Nat.not_le.mpr hq)
  have hSn : va_S (fun q : Nat => s.heap.size ≤ q) s.heap H2 [] := ⟨Nat.le_trans hS.1 hS2.1, fun q h1 h2 => (hS2.2.1 q (Nat.lt_of_lt_of_le h1 hS.1) (fun x => x.elim (fun y => absurd (Nat.lt_of_lt_of_le h1 hS.1) (Nat.not_lt.mpr y)) (nC q h1))).trans (hS.2.1 q h1 h2), fun _ h => by simp at h⟩
  have hpS2 : pS dC dI cI E (fixA adC cI cZ cW cJ cF0 (fun _ _ => 0) (fun _ _ => none) N) H2 := hpS.kept (fun a ha hn => hS2.2.1 a ha (fun x => x.elim (fun y => absurd ha (Nat.not_lt.mpr y)) (fun y => hn (fixA_iff.mpr y))))
  have hDn : va_D (fun q : Nat => s.heap.size ≤ q) (cX adC cI cZ cW cJ cF0 (fun _ _ => 0) (fun _ _ => none) N ++ [(qm, .inr (12, [.int 0, .null, .null, .int 0, .int 0, .int 0, .int 0, .int 0, .int 0, .null, .null, .int 0, .int 0, .null, .null, .null, .null, .int 0, .int 0, .null, .int 0, .int 0, .int 0, .int 0]))]) := hD2.weaken (fun k q hk hq => hq.elim (fun y => Nat.le_trans hS.1 y) (fun y => Nat.le_of_not_lt (fun z => nC _ z y)))
  have hPc := hP2.sub (ws' := [(qm, .inr (12, [.int 0, .null, .null, .int 0, .int 0, .int 0, .int 0, .int 0, .int 0, .null, .null, .int 0, .int 0, .null, .null, .null, .null, .int 0, .int 0, .null, .int 0, .int 0, .int 0, .int 0]))]) [26] rfl
  have hDc := hDn.sub (ws' := [(qm, .inr (12, [.int 0, .null, .null, .int 0, .int 0, .int 0, .int 0, .int 0, .int 0, .null, .null, .int 0, .int 0, .null, .null, .null, .null, .int 0, .int 0, .null, .int 0, .int 0, .int 0, .int 0]))]) [26] (by decide) rfl
  have hFc := va_free (wc := [(qm, .inr (12, [.int 0, .null, .null, .int 0, .int 0, .int 0, .int 0, .int 0, .int 0, .null, .null, .int 0, .int 0, .null, .null, .null, .null, .int 0, .int 0, .null, .int 0, .int 0, .int 0, .int 0]))]) hDn hSn hA [26] rfl
  refine lv_dup hx hb d_law_11 rfl ?_
  refine va_callv (va_runI (As := []) (rest := [.ref qm]) ⟨hx, hb, hml, hown, hT⟩ (c_Md_init l dC dI cI cZ cW cJ qm H2.size) ⟨callB_of 0 hT (goodW cd_Md_init) rfl rfl rfl (hT _ ini_Md) (hT _ ml_law_12) ⟨by decide +kernel, by decide +kernel, by decide +kernel⟩ ⟨Nat.le_of_ble_eq_true rfl, Nat.le_of_ble_eq_true rfl⟩, rfl, hT _ im_Md_init⟩ ⟨fun a U g mk q => ⟨q.1, q.2.1, q.2.2.1, va_K.moved (u := U) (U := U.calling g mk a) (Vm.Alike.refl U.vm) q.2.2.2.1, q.2.2.2.2⟩, fun U hU hW => ⟨rfl, by rw [hU], by rw [hU]; exact hPc, va_K.moved hW.alike hK, hDc.weaken (fun _ _ _ _ => trivial)⟩⟩ rfl rfl hl.1 rfl (lv_room (Nat.le_of_ble_eq_true rfl)) d_law_12 ⟨Nat.le_of_ble_eq_true rfl, Nat.le_of_ble_eq_true rfl⟩) hSn (fun q _ h => hFc q h) hFc (fun adM t3 H3 locs3 ht3 hvm3 hw3 hB3 hz3 hk3 hS3 => ?_)
  obtain ⟨g0, hP3, hK3, hD3⟩ := hB3
  rw [ht3] at hP3
  have nq : ∀ q, inC adC q → q < H2.size ∧ ¬ va_A [(qm, .inr (12, [.int 0, .null, .null, .int 0, .int 0, .int 0, .int 0, .int 0, .int 0, .null, .null, .int 0, .int 0, .null, .null, .null, .null, .int 0, .int 0, .null, .int 0, .int 0, .int 0, .int 0]))] H2.size q := fun q hc => by
    obtain ⟨k, e, hk⟩ := fixA_iff (ad := adC) (cI := cI) (cZ := cZ) (cW := cW) (cJ := cJ) (F := cF0) (G := fun _ _ => 0) (P := fun _ _ => none) (N := N) |>.mpr hc
    have hlt := (ap_l hP2 k _ hk).lt
    refine ⟨hlt, fun hh => hh.elim (fun ⟨j, e', hj⟩ => ap_ne hDn hj ⟨k, e, hk⟩) (fun y => absurd hlt (Nat.not_lt.mpr y))⟩
  have hPC3 : va_P (dC, dI) CL (cX adC cI cZ cW cJ cF0 (fun _ _ => 0) (fun _ _ => none) N) H3 := fun k q hk => (ap_l hP2 k q hk).kept (hk3 q.1 (ap_l hP2 k q hk).lt (nq q.1 (fixA_iff.mp ⟨k, q.2, hk⟩)).2)
  have np : ∀ q, inP E q → ¬ inC adC q := fun q hq hc => pS_not hpS2 hq (fixA_iff.mpr hc)
  have hLW : LW s dC dI cI cZ cW cJ adM adC E cF0 (fun _ _ => 0) (fun _ _ => none) N mI0 mR0 H3 locs3 := by
    have npm : ∀ q, inP E q → q < H1.size := fun q hq => by
      rcases hq with hq | ⟨x, hx1, hx2⟩
      · exact (hpS.1 q hq).2.1.lt
      · have := (hpS.2 x hx1).1
        rcases hx2 with rfl | rfl | rfl | rfl | rfl | rfl
        · exact (this 0 _ rfl).lt
        · exact (this 1 _ rfl).lt
        · exact (this 2 _ rfl).lt
        · exact (this 3 _ rfl).lt
        · exact (this 4 _ rfl).lt
        · exact (this 5 _ rfl).lt
    have hqm : ∀ q, q < H1.size → ¬ inC adC q → ¬ va_A [(qm, .inr (12, [.int 0, .null, .null, .int 0, .int 0, .int 0, .int 0, .int 0, .int 0, .null, .null, .int 0, .int 0, .null, .null, .null, .null, .int 0, .int 0, .null, .int 0, .int 0, .int 0, .int 0]))] H2.size q := fun q hq hc hh => hh.elim (fun ⟨j, e', hj⟩ => by
      have h9 := hD2.2 26 (qm, .inr (12, [.int 0, .null, .null, .int 0, .int 0, .int 0, .int 0, .int 0, .int 0, .null, .null, .int 0, .int 0, .null, .null, .null, .null, .int 0, .int 0, .null, .int 0, .int 0, .int 0, .int 0])) rfl
      have eq : q = qm := by
        rcases j with _ | j
        · cases hj; rfl
        · simp at hj
      rcases h9 with y | y
      · dsimp only at y; omega
      · exact hc (by rw [eq]; exact y)) (fun y => absurd (Nat.lt_of_lt_of_le hq hS2.1) (Nat.not_lt.mpr y))
    have hinM : ∀ q, inM adM cI cZ q → va_A [(qm, .inr (12, [.int 0, .null, .null, .int 0, .int 0, .int 0, .int 0, .int 0, .int 0, .null, .null, .int 0, .int 0, .null, .null, .null, .null, .int 0, .int 0, .null, .int 0, .int 0, .int 0, .int 0]))] H2.size q := fun q ⟨k, e, hk⟩ => hD3.2 k _ hk
    refine ⟨hP3, hPC3, hD3.weaken (fun _ q _ hq => hFc _ hq), hD1, fun q hq hc => (nq q hc).2 (hinM q hq), hS3, ?_⟩
    have hp3 : pS dC dI cI E (fun q => ¬ (q < H1.size ∧ ¬ inC adC q)) H3 := by
      refine (pS.kept (A := fun q => ¬ (q < H1.size ∧ ¬ inC adC q)) (H := H2) ?_ (fun a ha hn => ?_))
      · exact ⟨fun x hx1 => ⟨(hpS2.1 x hx1).1, (hpS2.1 x hx1).2.1, fun hh => hh ⟨npm x (Or.inl hx1), np x (Or.inl hx1)⟩⟩, fun x hx1 => ⟨(hpS2.2 x hx1).1, fun k q hk hh => hh ⟨npm _ (inP_n hx1 hk), np _ (inP_n hx1 hk)⟩⟩⟩
      · have hn' := Classical.not_not.mp hn
        exact hk3 a ha (hqm a hn'.1 hn'.2)
    exact hp3.narrow (fun q hq hh => hq.elim (fun y => hqm q hh.1 hh.2 (hinM q y)) hh.2)
  refine lv_astore_n (lv' := [(2, .ref qm), (1, .ref a), (0, .ref b)]) hx hb d_law_15 rfl hl (by decide) rfl (fun ls hl => ?_)
  refine lv_iconst (v := 0) hx hb d_law_16 (by decide) ?_
  refine lv_istore_n (lv' := [(3, .int 0), (2, .ref qm), (1, .ref a), (0, .ref b)]) hx hb d_law_17 rfl hl (by decide) rfl (fun ls hl => ?_)
  have hl2 : lv_has ls 4 [(0, .ref b), (1, .ref (adC 0)), (2, .ref (adM 0)), (3, .int (nI 0))] := by
    rw [e0, g0]
    exact lv_sub hl [3, 2, 1, 0] rfl
  exact law_loop (n := 300000000) (Nat.le_refl _) C hr hlocks hX hbl hL 65 0 _ _ E cF0 _ _ N mI0 mR0 H3 locs3 ls (by omega) (by omega) (Nat.le_of_ble_eq_true rfl) (Nat.le_of_ble_eq_true rfl) hLW (st_init hw) hl2
