/-! ===== the law: one call of both ===== -/
theorem lw_lc (r : Int64) : lg_cmp r r = 0 := by simp [lg_cmp]
section LWc
variable {p : Program} {l : Launch} {e : Env} {s : State} {m : MethodId} {args : Array Value} {below : List Frame} {meth : Method} {c : Code} {H : Heap} {locs : List Loc} {cells slots : Nat} {Q : State → Prop} {ls : Array Slot} {adK adV : Nat → Nat} {E : PE} {dC : Nat → ClassId} {dI : Nat → Nat → Nat} {adM adC : Nat → Nat} {cI cZ cW cJ : ClassId} {F G : Nat → Nat → Int32} {P : Nat → Nat → Option Nat} {N : Nat → Nat} {I : Nat → Int32} {R : Nat → Nat → Int32} {b L i n : Nat} {xs : Nat → Int32}
theorem lw_in {j : Nat} {J : Int32} (hi : i + 5 ≤ L) (hL : L ≤ 320) (hj : j < 5) (hJ : J = nI j) : vp_in (nI i + J) L := by rw [hJ, nI_add]; exact vp_in_nI (by omega) (by omega)
theorem law_c0 (hn : 300000000 ≤ n) (C : LC p s m args c dC dI cI cZ cW cJ adK adV) (hX : va_X b L xs s s.heap) (hbl : b < s.heap.size) (h : LW s dC dI cI cZ cW cJ adM adC E F G P N I R H locs) (hR : RL E F G P N I R) (hi : i + 5 ≤ L) (hL : L ≤ 320) (hl : lv_has ls 4 [(0, .ref b), (1, .ref (adC 0)), (2, .ref (adM 0)), (3, .int (nI i))]) (hcs : cells + 6 ≤ room_1.cells ∧ slots + 241 ≤ room_1.slots) (kk : ∀ (E1 : PE) (F1 G1 : Nat → Nat → Int32) (P1 : Nat → Nat → Option Nat) (N1 : Nat → Nat) (I1 : Nat → Int32) (R1 : Nat → Nat → Int32) (H1 : Heap) (locs1 : List Loc), LW s dC dI cI cZ cW cJ adM adC E1 F1 G1 P1 N1 I1 R1 H1 locs1 → RL E1 F1 G1 P1 N1 I1 R1 → W p l e room_1 s m args below meth c H1 locs1 (cells + 6) (slots + 241) Q (F0 m 844 ls [])) : W p l e room_1 s m args below meth c H locs cells slots Q (F0 m 148 ls []) := by
  have hx := C.1
  have hb := C.2.1
  have hT := C.2.2.2.2.1
  have hbA : ¬ (fun q : Nat => s.heap.size ≤ q) b := Nat.not_le.mpr hbl
  have hc0 : cells ≤ room_1.cells ∧ slots ≤ room_1.slots := ⟨by omega, by omega⟩
  obtain ⟨r, F1, G1, P1, N1, I1, R1, f1, f2, hR⟩ := st_feed (n := n) (v1 := (xs (nI i + 1).toNatClampNeg)) hR
  refine lv_aload_n hx hb d_law_148 rfl (lv_at hl 1 rfl) ?_
  refine lv_aload_n hx hb d_law_149 rfl (lv_at hl 0 rfl) ?_
  refine lv_iload_n hx hb d_law_150 rfl (lv_at hl 3 rfl) ?_
  refine lv_iconst (v := 1) hx hb d_law_151 (by decide) ?_
  refine lv_iadd hx hb d_law_152 ?_
  refine va_sld hx hb hX hbl hbA h.2.2.2.2.2.1 (lw_in hi hL (j := 1) (by decide) rfl) d_law_153 ?_
  refine lw_ci (As1 := [.int (xs (nI i + 1).toNatClampNeg)]) (rest := []) C h rfl (c_LB_feed l n E (xs (nI i + 1).toNatClampNeg) F G P N) f1 (cbW 1 hT cd_LB_feed rfl rfl ini_LB ml_law_13 ⟨by decide +kernel, by decide +kernel, by decide +kernel⟩ ⟨Nat.le_of_ble_eq_true rfl, Nat.le_of_ble_eq_true rfl⟩) im_LB_feed se_LB_LB_feed__LB_feed rfl hl.1 rfl (Nat.le_of_ble_eq_true rfl) d_law_154 hc0 (fun H1 locs1 h => ?_)
  refine lv_aload_n hx hb d_law_157 rfl (lv_at hl 2 rfl) ?_
  refine lv_aload_n hx hb d_law_158 rfl (lv_at hl 0 rfl) ?_
  refine lv_iload_n hx hb d_law_159 rfl (lv_at hl 3 rfl) ?_
  refine lv_iconst (v := 1) hx hb d_law_160 (by decide) ?_
  refine lv_iadd hx hb d_law_161 ?_
  refine va_sld hx hb hX hbl hbA h.2.2.2.2.2.1 (lw_in hi hL (j := 1) (by decide) rfl) d_law_162 ?_
  refine lw_mi (As1 := [.int (xs (nI i + 1).toNatClampNeg)]) (rest := [.int r]) C h rfl (c_Md_feed l n (xs (nI i + 1).toNatClampNeg) I R) f2 (cbW 1 hT cd_Md_feed rfl rfl ini_Md ml_law_17 ⟨by decide +kernel, by decide +kernel, by decide +kernel⟩ ⟨Nat.le_of_ble_eq_true rfl, Nat.le_of_ble_eq_true rfl⟩) im_Md_feed se_Md_Md_feed__Md_feed rfl hl.1 rfl (Nat.le_of_ble_eq_true rfl) d_law_163 hc0 (fun H2 locs2 h => ?_)
  refine lv_icmp_eq (tgt := 844) hx hb d_law_166 (by decide) (fun _ => ?_) (fun hc => absurd rfl hc)
  refine W.widen (k := cells + 6) (n := slots + 241) (by omega) (by omega) ?_
  exact kk E F1 G1 P1 N1 I1 R1 H2 locs2 h hR
theorem law_c1 (hn : 300000000 ≤ n) (C : LC p s m args c dC dI cI cZ cW cJ adK adV) (hX : va_X b L xs s s.heap) (hbl : b < s.heap.size) (h : LW s dC dI cI cZ cW cJ adM adC E F G P N I R H locs) (hR : RL E F G P N I R) (hi : i + 5 ≤ L) (hL : L ≤ 320) (hl : lv_has ls 4 [(0, .ref b), (1, .ref (adC 0)), (2, .ref (adM 0)), (3, .int (nI i))]) (hcs : cells + 6 ≤ room_1.cells ∧ slots + 241 ≤ room_1.slots) (kk : ∀ (E1 : PE) (F1 G1 : Nat → Nat → Int32) (P1 : Nat → Nat → Option Nat) (N1 : Nat → Nat) (I1 : Nat → Int32) (R1 : Nat → Nat → Int32) (H1 : Heap) (locs1 : List Loc), LW s dC dI cI cZ cW cJ adM adC E1 F1 G1 P1 N1 I1 R1 H1 locs1 → RL E1 F1 G1 P1 N1 I1 R1 → W p l e room_1 s m args below meth c H1 locs1 (cells + 6) (slots + 241) Q (F0 m 844 ls [])) : W p l e room_1 s m args below meth c H locs cells slots Q (F0 m 171 ls []) := by
  have hx := C.1
  have hb := C.2.1
  have hT := C.2.2.2.2.1
  have hbA : ¬ (fun q : Nat => s.heap.size ≤ q) b := Nat.not_le.mpr hbl
  have hc0 : cells ≤ room_1.cells ∧ slots ≤ room_1.slots := ⟨by omega, by omega⟩
  obtain ⟨r0, I0, R0, f1, f2⟩ := st_night (n := n) (by omega) hR
  refine lv_aload_n hx hb d_law_171 rfl (lv_at hl 1 rfl) ?_
  refine lw_ca (As1 := []) (rest := []) C h rfl (c_LB_night l n E F G P N r0 I0 R0 f1) (callB_of 0 hT (goodW cd_LB_night) rfl rfl rfl (hT _ ini_LB) (hT _ ml_law_18) ⟨by decide +kernel, by decide +kernel, by decide +kernel⟩ ⟨Nat.le_of_ble_eq_true rfl, Nat.le_of_ble_eq_true rfl⟩) im_LB_night se_LB_LB_night__LB_night rfl hl.1 rfl (Nat.le_of_ble_eq_true rfl) d_law_172 ⟨by omega, by omega⟩ (fun r u E1 H1 locs1 hp h => ?_)
  obtain ⟨I1, R1, g1, hR⟩ := f2 r u E1 hp
  refine lv_aload_n hx hb d_law_175 rfl (lv_at hl 2 rfl) ?_
  refine lw_mi (As1 := []) (rest := [.int r]) C h rfl (c_Md_night l n I R) g1 (cbW 0 hT cd_Md_night rfl rfl ini_Md ml_law_22 ⟨by decide +kernel, by decide +kernel, by decide +kernel⟩ ⟨Nat.le_of_ble_eq_true rfl, Nat.le_of_ble_eq_true rfl⟩) im_Md_night se_Md_Md_night__Md_night rfl hl.1 rfl (Nat.le_of_ble_eq_true rfl) d_law_176 ⟨by omega, by omega⟩ (fun H2 locs2 h => ?_)
  refine lv_icmp_eq (tgt := 844) hx hb d_law_179 (by decide) (fun _ => ?_) (fun hc => absurd rfl hc)
  refine W.widen (k := cells + 6) (n := slots + 241) (by omega) (by omega) ?_
  exact kk E1 u.1 u.2.1 u.2.2.1 u.2.2.2 I1 R1 H2 locs2 h hR
theorem law_c2 (hn : 300000000 ≤ n) (C : LC p s m args c dC dI cI cZ cW cJ adK adV) (hX : va_X b L xs s s.heap) (hbl : b < s.heap.size) (h : LW s dC dI cI cZ cW cJ adM adC E F G P N I R H locs) (hR : RL E F G P N I R) (hi : i + 5 ≤ L) (hL : L ≤ 320) (hl : lv_has ls 4 [(0, .ref b), (1, .ref (adC 0)), (2, .ref (adM 0)), (3, .int (nI i))]) (hcs : cells + 6 ≤ room_1.cells ∧ slots + 241 ≤ room_1.slots) (kk : ∀ (E1 : PE) (F1 G1 : Nat → Nat → Int32) (P1 : Nat → Nat → Option Nat) (N1 : Nat → Nat) (I1 : Nat → Int32) (R1 : Nat → Nat → Int32) (H1 : Heap) (locs1 : List Loc), LW s dC dI cI cZ cW cJ adM adC E1 F1 G1 P1 N1 I1 R1 H1 locs1 → RL E1 F1 G1 P1 N1 I1 R1 → W p l e room_1 s m args below meth c H1 locs1 (cells + 6) (slots + 241) Q (F0 m 844 ls [])) : W p l e room_1 s m args below meth c H locs cells slots Q (F0 m 184 ls []) := by
  have hx := C.1
  have hb := C.2.1
  have hT := C.2.2.2.2.1
  have hbA : ¬ (fun q : Nat => s.heap.size ≤ q) b := Nat.not_le.mpr hbl
  have hc0 : cells ≤ room_1.cells ∧ slots ≤ room_1.slots := ⟨by omega, by omega⟩
  obtain ⟨z, f1, f2⟩ := st_person (n := n) (v1 := (xs (nI i + 1).toNatClampNeg)) (v2 := (xs (nI i + 2).toNatClampNeg)) (v3 := (xs (nI i + 3).toNatClampNeg)) (v4 := (xs (nI i + 4).toNatClampNeg)) hR
  refine lv_aload_n hx hb d_law_184 rfl (lv_at hl 1 rfl) ?_
  refine lv_aload_n hx hb d_law_185 rfl (lv_at hl 0 rfl) ?_
  refine lv_iload_n hx hb d_law_186 rfl (lv_at hl 3 rfl) ?_
  refine lv_iconst (v := 1) hx hb d_law_187 (by decide) ?_
  refine lv_iadd hx hb d_law_188 ?_
  refine va_sld hx hb hX hbl hbA h.2.2.2.2.2.1 (lw_in hi hL (j := 1) (by decide) rfl) d_law_189 ?_
  refine lv_aload_n hx hb d_law_190 rfl (lv_at hl 0 rfl) ?_
  refine lv_iload_n hx hb d_law_191 rfl (lv_at hl 3 rfl) ?_
  refine lv_iconst (v := 2) hx hb d_law_192 (by decide) ?_
  refine lv_iadd hx hb d_law_193 ?_
  refine va_sld hx hb hX hbl hbA h.2.2.2.2.2.1 (lw_in hi hL (j := 2) (by decide) rfl) d_law_194 ?_
  refine lv_aload_n hx hb d_law_195 rfl (lv_at hl 0 rfl) ?_
  refine lv_iload_n hx hb d_law_196 rfl (lv_at hl 3 rfl) ?_
  refine lv_iconst (v := 3) hx hb d_law_197 (by decide) ?_
  refine lv_iadd hx hb d_law_198 ?_
  refine va_sld hx hb hX hbl hbA h.2.2.2.2.2.1 (lw_in hi hL (j := 3) (by decide) rfl) d_law_199 ?_
  refine lv_aload_n hx hb d_law_200 rfl (lv_at hl 0 rfl) ?_
  refine lv_iload_n hx hb d_law_201 rfl (lv_at hl 3 rfl) ?_
  refine lv_iconst (v := 4) hx hb d_law_202 (by decide) ?_
  refine lv_iadd hx hb d_law_203 ?_
  refine va_sld hx hb hX hbl hbA h.2.2.2.2.2.1 (lw_in hi hL (j := 4) (by decide) rfl) d_law_204 ?_
  refine lw_ca (As1 := [.int (xs (nI i + 1).toNatClampNeg), .int (xs (nI i + 2).toNatClampNeg), .int (xs (nI i + 3).toNatClampNeg), .int (xs (nI i + 4).toNatClampNeg)]) (rest := []) C h rfl (c_LB_person l E (xs (nI i + 1).toNatClampNeg) (xs (nI i + 2).toNatClampNeg) (xs (nI i + 3).toNatClampNeg) (xs (nI i + 4).toNatClampNeg) F G P N z f1) (callB_of 4 hT (goodW cd_LB_person) rfl rfl rfl (hT _ ini_LB) (hT _ ml_law_23) ⟨by decide +kernel, by decide +kernel, by decide +kernel⟩ ⟨Nat.le_of_ble_eq_true rfl, Nat.le_of_ble_eq_true rfl⟩) im_LB_person se_LB_LB_person__LB_person rfl hl.1 rfl (Nat.le_of_ble_eq_true rfl) d_law_205 ⟨by omega, by omega⟩ (fun r u E1 H1 locs1 hp h => ?_)
  obtain ⟨I1, R1, g1, hR⟩ := f2 r u E1 hp
  refine lv_aload_n hx hb d_law_208 rfl (lv_at hl 2 rfl) ?_
  refine lv_aload_n hx hb d_law_209 rfl (lv_at hl 0 rfl) ?_
  refine lv_iload_n hx hb d_law_210 rfl (lv_at hl 3 rfl) ?_
  refine lv_iconst (v := 1) hx hb d_law_211 (by decide) ?_
  refine lv_iadd hx hb d_law_212 ?_
  refine va_sld hx hb hX hbl hbA h.2.2.2.2.2.1 (lw_in hi hL (j := 1) (by decide) rfl) d_law_213 ?_
  refine lv_aload_n hx hb d_law_214 rfl (lv_at hl 0 rfl) ?_
  refine lv_iload_n hx hb d_law_215 rfl (lv_at hl 3 rfl) ?_
  refine lv_iconst (v := 2) hx hb d_law_216 (by decide) ?_
  refine lv_iadd hx hb d_law_217 ?_
  refine va_sld hx hb hX hbl hbA h.2.2.2.2.2.1 (lw_in hi hL (j := 2) (by decide) rfl) d_law_218 ?_
  refine lv_aload_n hx hb d_law_219 rfl (lv_at hl 0 rfl) ?_
  refine lv_iload_n hx hb d_law_220 rfl (lv_at hl 3 rfl) ?_
  refine lv_iconst (v := 3) hx hb d_law_221 (by decide) ?_
  refine lv_iadd hx hb d_law_222 ?_
  refine va_sld hx hb hX hbl hbA h.2.2.2.2.2.1 (lw_in hi hL (j := 3) (by decide) rfl) d_law_223 ?_
  refine lv_aload_n hx hb d_law_224 rfl (lv_at hl 0 rfl) ?_
  refine lv_iload_n hx hb d_law_225 rfl (lv_at hl 3 rfl) ?_
  refine lv_iconst (v := 4) hx hb d_law_226 (by decide) ?_
  refine lv_iadd hx hb d_law_227 ?_
  refine va_sld hx hb hX hbl hbA h.2.2.2.2.2.1 (lw_in hi hL (j := 4) (by decide) rfl) d_law_228 ?_
  refine lw_mi (As1 := [.int (xs (nI i + 1).toNatClampNeg), .int (xs (nI i + 2).toNatClampNeg), .int (xs (nI i + 3).toNatClampNeg), .int (xs (nI i + 4).toNatClampNeg)]) (rest := [.int r]) C h rfl (c_Md_person l n (xs (nI i + 1).toNatClampNeg) (xs (nI i + 2).toNatClampNeg) (xs (nI i + 3).toNatClampNeg) (xs (nI i + 4).toNatClampNeg) I R) g1 (cbW 4 hT cd_Md_person rfl rfl ini_Md ml_law_27 ⟨by decide +kernel, by decide +kernel, by decide +kernel⟩ ⟨Nat.le_of_ble_eq_true rfl, Nat.le_of_ble_eq_true rfl⟩) im_Md_person se_Md_Md_person__Md_person rfl hl.1 rfl (Nat.le_of_ble_eq_true rfl) d_law_229 ⟨by omega, by omega⟩ (fun H2 locs2 h => ?_)
  refine lv_icmp_eq (tgt := 844) hx hb d_law_232 (by decide) (fun _ => ?_) (fun hc => absurd rfl hc)
  refine W.widen (k := cells + 6) (n := slots + 241) (by omega) (by omega) ?_
  exact kk E1 u.1 u.2.1 u.2.2.1 u.2.2.2 I1 R1 H2 locs2 h hR
theorem law_c3 (hn : 300000000 ≤ n) (C : LC p s m args c dC dI cI cZ cW cJ adK adV) (hX : va_X b L xs s s.heap) (hbl : b < s.heap.size) (h : LW s dC dI cI cZ cW cJ adM adC E F G P N I R H locs) (hR : RL E F G P N I R) (hi : i + 5 ≤ L) (hL : L ≤ 320) (hl : lv_has ls 4 [(0, .ref b), (1, .ref (adC 0)), (2, .ref (adM 0)), (3, .int (nI i))]) (hcs : cells + 6 ≤ room_1.cells ∧ slots + 241 ≤ room_1.slots) (kk : ∀ (E1 : PE) (F1 G1 : Nat → Nat → Int32) (P1 : Nat → Nat → Option Nat) (N1 : Nat → Nat) (I1 : Nat → Int32) (R1 : Nat → Nat → Int32) (H1 : Heap) (locs1 : List Loc), LW s dC dI cI cZ cW cJ adM adC E1 F1 G1 P1 N1 I1 R1 H1 locs1 → RL E1 F1 G1 P1 N1 I1 R1 → W p l e room_1 s m args below meth c H1 locs1 (cells + 6) (slots + 241) Q (F0 m 844 ls [])) : W p l e room_1 s m args below meth c H locs cells slots Q (F0 m 237 ls []) := by
  have hx := C.1
  have hb := C.2.1
  have hT := C.2.2.2.2.1
  have hbA : ¬ (fun q : Nat => s.heap.size ≤ q) b := Nat.not_le.mpr hbl
  have hc0 : cells ≤ room_1.cells ∧ slots ≤ room_1.slots := ⟨by omega, by omega⟩
  obtain ⟨r, f1, f2⟩ := st_of (n := n) (v1 := (xs (nI i + 1).toNatClampNeg)) (v2 := (xs (nI i + 2).toNatClampNeg)) hR
  refine lv_aload_n hx hb d_law_237 rfl (lv_at hl 1 rfl) ?_
  refine lv_aload_n hx hb d_law_238 rfl (lv_at hl 0 rfl) ?_
  refine lv_iload_n hx hb d_law_239 rfl (lv_at hl 3 rfl) ?_
  refine lv_iconst (v := 1) hx hb d_law_240 (by decide) ?_
  refine lv_iadd hx hb d_law_241 ?_
  refine va_sld hx hb hX hbl hbA h.2.2.2.2.2.1 (lw_in hi hL (j := 1) (by decide) rfl) d_law_242 ?_
  refine lv_aload_n hx hb d_law_243 rfl (lv_at hl 0 rfl) ?_
  refine lv_iload_n hx hb d_law_244 rfl (lv_at hl 3 rfl) ?_
  refine lv_iconst (v := 2) hx hb d_law_245 (by decide) ?_
  refine lv_iadd hx hb d_law_246 ?_
  refine va_sld hx hb hX hbl hbA h.2.2.2.2.2.1 (lw_in hi hL (j := 2) (by decide) rfl) d_law_247 ?_
  refine lw_ri (As1 := [.int (xs (nI i + 1).toNatClampNeg), .int (xs (nI i + 2).toNatClampNeg)]) (rest := []) C h (c_LB_of l n E F G P N dC dI adC cI cZ cW cJ (xs (nI i + 1).toNatClampNeg) (xs (nI i + 2).toNatClampNeg)) f1 (cbW 2 hT cd_LB_of rfl rfl ini_LB ml_law_28 ⟨by decide +kernel, by decide +kernel, by decide +kernel⟩ ⟨Nat.le_of_ble_eq_true rfl, Nat.le_of_ble_eq_true rfl⟩) im_LB_of se_LB_LB_of__LB_of rfl hl.1 rfl (Nat.le_of_ble_eq_true rfl) d_law_248 hc0 ?_
  refine lv_aload_n hx hb d_law_251 rfl (lv_at hl 2 rfl) ?_
  refine lv_aload_n hx hb d_law_252 rfl (lv_at hl 0 rfl) ?_
  refine lv_iload_n hx hb d_law_253 rfl (lv_at hl 3 rfl) ?_
  refine lv_iconst (v := 1) hx hb d_law_254 (by decide) ?_
  refine lv_iadd hx hb d_law_255 ?_
  refine va_sld hx hb hX hbl hbA h.2.2.2.2.2.1 (lw_in hi hL (j := 1) (by decide) rfl) d_law_256 ?_
  refine lv_aload_n hx hb d_law_257 rfl (lv_at hl 0 rfl) ?_
  refine lv_iload_n hx hb d_law_258 rfl (lv_at hl 3 rfl) ?_
  refine lv_iconst (v := 2) hx hb d_law_259 (by decide) ?_
  refine lv_iadd hx hb d_law_260 ?_
  refine va_sld hx hb hX hbl hbA h.2.2.2.2.2.1 (lw_in hi hL (j := 2) (by decide) rfl) d_law_261 ?_
  refine lw_mi (As1 := [.int (xs (nI i + 1).toNatClampNeg), .int (xs (nI i + 2).toNatClampNeg)]) (rest := [.int r]) (I' := I) (R' := R) C h rfl (c_Md_of l n (xs (nI i + 1).toNatClampNeg) (xs (nI i + 2).toNatClampNeg) I R) (by rw [f2]; rfl) (cbW 2 hT cd_Md_of rfl rfl ini_Md ml_law_32 ⟨by decide +kernel, by decide +kernel, by decide +kernel⟩ ⟨Nat.le_of_ble_eq_true rfl, Nat.le_of_ble_eq_true rfl⟩) im_Md_of se_Md_Md_of__Md_of rfl hl.1 rfl (Nat.le_of_ble_eq_true rfl) d_law_262 hc0 (fun H2 locs2 h => ?_)
  refine lv_icmp_eq (tgt := 844) hx hb d_law_265 (by decide) (fun _ => ?_) (fun hc => absurd rfl hc)
  refine W.widen (k := cells + 6) (n := slots + 241) (by omega) (by omega) ?_
  exact kk E F G P N I R H2 locs2 h hR
theorem law_c4 (hn : 300000000 ≤ n) (C : LC p s m args c dC dI cI cZ cW cJ adK adV) (hX : va_X b L xs s s.heap) (hbl : b < s.heap.size) (h : LW s dC dI cI cZ cW cJ adM adC E F G P N I R H locs) (hR : RL E F G P N I R) (hi : i + 5 ≤ L) (hL : L ≤ 320) (hl : lv_has ls 4 [(0, .ref b), (1, .ref (adC 0)), (2, .ref (adM 0)), (3, .int (nI i))]) (hcs : cells + 6 ≤ room_1.cells ∧ slots + 241 ≤ room_1.slots) (kk : ∀ (E1 : PE) (F1 G1 : Nat → Nat → Int32) (P1 : Nat → Nat → Option Nat) (N1 : Nat → Nat) (I1 : Nat → Int32) (R1 : Nat → Nat → Int32) (H1 : Heap) (locs1 : List Loc), LW s dC dI cI cZ cW cJ adM adC E1 F1 G1 P1 N1 I1 R1 H1 locs1 → RL E1 F1 G1 P1 N1 I1 R1 → W p l e room_1 s m args below meth c H1 locs1 (cells + 6) (slots + 241) Q (F0 m 844 ls [])) : W p l e room_1 s m args below meth c H locs cells slots Q (F0 m 270 ls []) := by
  have hx := C.1
  have hb := C.2.1
  have hT := C.2.2.2.2.1
  have hbA : ¬ (fun q : Nat => s.heap.size ≤ q) b := Nat.not_le.mpr hbl
  have hc0 : cells ≤ room_1.cells ∧ slots ≤ room_1.slots := ⟨by omega, by omega⟩
  obtain ⟨r, f1, f2⟩ := st_told (n := n) (v := (xs (nI i + 1).toNatClampNeg)) hR
  refine lv_aload_n hx hb d_law_270 rfl (lv_at hl 1 rfl) ?_
  refine lv_aload_n hx hb d_law_271 rfl (lv_at hl 0 rfl) ?_
  refine lv_iload_n hx hb d_law_272 rfl (lv_at hl 3 rfl) ?_
  refine lv_iconst (v := 1) hx hb d_law_273 (by decide) ?_
  refine lv_iadd hx hb d_law_274 ?_
  refine va_sld hx hb hX hbl hbA h.2.2.2.2.2.1 (lw_in hi hL (j := 1) (by decide) rfl) d_law_275 ?_
  refine lw_ri (As1 := [.int (xs (nI i + 1).toNatClampNeg)]) (rest := []) C h (c_LB_told l n E F G P N dC dI adC cI cZ cW cJ (xs (nI i + 1).toNatClampNeg)) f1 (cbW 1 hT cd_LB_told rfl rfl ini_LB ml_law_33 ⟨by decide +kernel, by decide +kernel, by decide +kernel⟩ ⟨Nat.le_of_ble_eq_true rfl, Nat.le_of_ble_eq_true rfl⟩) im_LB_told se_LB_LB_told__LB_told rfl hl.1 rfl (Nat.le_of_ble_eq_true rfl) d_law_276 hc0 ?_
  refine lv_aload_n hx hb d_law_279 rfl (lv_at hl 2 rfl) ?_
  refine lv_aload_n hx hb d_law_280 rfl (lv_at hl 0 rfl) ?_
  refine lv_iload_n hx hb d_law_281 rfl (lv_at hl 3 rfl) ?_
  refine lv_iconst (v := 1) hx hb d_law_282 (by decide) ?_
  refine lv_iadd hx hb d_law_283 ?_
  refine va_sld hx hb hX hbl hbA h.2.2.2.2.2.1 (lw_in hi hL (j := 1) (by decide) rfl) d_law_284 ?_
  refine lw_mi (As1 := [.int (xs (nI i + 1).toNatClampNeg)]) (rest := [.int r]) (I' := I) (R' := R) C h rfl (c_Md_told l n (xs (nI i + 1).toNatClampNeg) I R) (by rw [f2]; rfl) (cbW 1 hT cd_Md_told rfl rfl ini_Md ml_law_36 ⟨by decide +kernel, by decide +kernel, by decide +kernel⟩ ⟨Nat.le_of_ble_eq_true rfl, Nat.le_of_ble_eq_true rfl⟩) im_Md_told se_Md_Md_told__Md_told rfl hl.1 rfl (Nat.le_of_ble_eq_true rfl) d_law_285 hc0 (fun H2 locs2 h => ?_)
  refine lv_icmp_eq (tgt := 844) hx hb d_law_288 (by decide) (fun _ => ?_) (fun hc => absurd rfl hc)
  refine W.widen (k := cells + 6) (n := slots + 241) (by omega) (by omega) ?_
  exact kk E F G P N I R H2 locs2 h hR
theorem law_c5 (hn : 300000000 ≤ n) (C : LC p s m args c dC dI cI cZ cW cJ adK adV) (hX : va_X b L xs s s.heap) (hbl : b < s.heap.size) (h : LW s dC dI cI cZ cW cJ adM adC E F G P N I R H locs) (hR : RL E F G P N I R) (hi : i + 5 ≤ L) (hL : L ≤ 320) (hl : lv_has ls 4 [(0, .ref b), (1, .ref (adC 0)), (2, .ref (adM 0)), (3, .int (nI i))]) (hcs : cells + 6 ≤ room_1.cells ∧ slots + 241 ≤ room_1.slots) (kk : ∀ (E1 : PE) (F1 G1 : Nat → Nat → Int32) (P1 : Nat → Nat → Option Nat) (N1 : Nat → Nat) (I1 : Nat → Int32) (R1 : Nat → Nat → Int32) (H1 : Heap) (locs1 : List Loc), LW s dC dI cI cZ cW cJ adM adC E1 F1 G1 P1 N1 I1 R1 H1 locs1 → RL E1 F1 G1 P1 N1 I1 R1 → W p l e room_1 s m args below meth c H1 locs1 (cells + 6) (slots + 241) Q (F0 m 844 ls [])) : W p l e room_1 s m args below meth c H locs cells slots Q (F0 m 293 ls []) := by
  have hx := C.1
  have hb := C.2.1
  have hT := C.2.2.2.2.1
  have hbA : ¬ (fun q : Nat => s.heap.size ≤ q) b := Nat.not_le.mpr hbl
  have hc0 : cells ≤ room_1.cells ∧ slots ≤ room_1.slots := ⟨by omega, by omega⟩
  obtain ⟨r, F1, G1, P1, N1, I1, R1, f1, f2, hR⟩ := st_going (n := n) (v1 := (xs (nI i + 1).toNatClampNeg)) (v2 := (xs (nI i + 2).toNatClampNeg)) (v3 := (xs (nI i + 3).toNatClampNeg)) hn hR
  refine lv_aload_n hx hb d_law_293 rfl (lv_at hl 1 rfl) ?_
  refine lv_aload_n hx hb d_law_294 rfl (lv_at hl 0 rfl) ?_
  refine lv_iload_n hx hb d_law_295 rfl (lv_at hl 3 rfl) ?_
  refine lv_iconst (v := 1) hx hb d_law_296 (by decide) ?_
  refine lv_iadd hx hb d_law_297 ?_
  refine va_sld hx hb hX hbl hbA h.2.2.2.2.2.1 (lw_in hi hL (j := 1) (by decide) rfl) d_law_298 ?_
  refine lv_aload_n hx hb d_law_299 rfl (lv_at hl 0 rfl) ?_
  refine lv_iload_n hx hb d_law_300 rfl (lv_at hl 3 rfl) ?_
  refine lv_iconst (v := 2) hx hb d_law_301 (by decide) ?_
  refine lv_iadd hx hb d_law_302 ?_
  refine va_sld hx hb hX hbl hbA h.2.2.2.2.2.1 (lw_in hi hL (j := 2) (by decide) rfl) d_law_303 ?_
  refine lv_aload_n hx hb d_law_304 rfl (lv_at hl 0 rfl) ?_
  refine lv_iload_n hx hb d_law_305 rfl (lv_at hl 3 rfl) ?_
  refine lv_iconst (v := 3) hx hb d_law_306 (by decide) ?_
  refine lv_iadd hx hb d_law_307 ?_
  refine va_sld hx hb hX hbl hbA h.2.2.2.2.2.1 (lw_in hi hL (j := 3) (by decide) rfl) d_law_308 ?_
  refine lw_ci (As1 := [.int (xs (nI i + 1).toNatClampNeg), .int (xs (nI i + 2).toNatClampNeg), .int (xs (nI i + 3).toNatClampNeg)]) (rest := []) C h rfl (c_LB_going l n E (xs (nI i + 1).toNatClampNeg) (xs (nI i + 2).toNatClampNeg) (xs (nI i + 3).toNatClampNeg) F G P N) f1 (cbW 3 hT cd_LB_going rfl rfl ini_LB ml_law_37 ⟨by decide +kernel, by decide +kernel, by decide +kernel⟩ ⟨Nat.le_of_ble_eq_true rfl, Nat.le_of_ble_eq_true rfl⟩) im_LB_going se_LB_LB_going__LB_going rfl hl.1 rfl (Nat.le_of_ble_eq_true rfl) d_law_309 hc0 (fun H1 locs1 h => ?_)
  refine lv_aload_n hx hb d_law_312 rfl (lv_at hl 2 rfl) ?_
  refine lv_aload_n hx hb d_law_313 rfl (lv_at hl 0 rfl) ?_
  refine lv_iload_n hx hb d_law_314 rfl (lv_at hl 3 rfl) ?_
  refine lv_iconst (v := 1) hx hb d_law_315 (by decide) ?_
  refine lv_iadd hx hb d_law_316 ?_
  refine va_sld hx hb hX hbl hbA h.2.2.2.2.2.1 (lw_in hi hL (j := 1) (by decide) rfl) d_law_317 ?_
  refine lv_aload_n hx hb d_law_318 rfl (lv_at hl 0 rfl) ?_
  refine lv_iload_n hx hb d_law_319 rfl (lv_at hl 3 rfl) ?_
  refine lv_iconst (v := 2) hx hb d_law_320 (by decide) ?_
  refine lv_iadd hx hb d_law_321 ?_
  refine va_sld hx hb hX hbl hbA h.2.2.2.2.2.1 (lw_in hi hL (j := 2) (by decide) rfl) d_law_322 ?_
  refine lv_aload_n hx hb d_law_323 rfl (lv_at hl 0 rfl) ?_
  refine lv_iload_n hx hb d_law_324 rfl (lv_at hl 3 rfl) ?_
  refine lv_iconst (v := 3) hx hb d_law_325 (by decide) ?_
  refine lv_iadd hx hb d_law_326 ?_
  refine va_sld hx hb hX hbl hbA h.2.2.2.2.2.1 (lw_in hi hL (j := 3) (by decide) rfl) d_law_327 ?_
  refine lw_mi (As1 := [.int (xs (nI i + 1).toNatClampNeg), .int (xs (nI i + 2).toNatClampNeg), .int (xs (nI i + 3).toNatClampNeg)]) (rest := [.int r]) C h rfl (c_Md_going l n (xs (nI i + 1).toNatClampNeg) (xs (nI i + 2).toNatClampNeg) (xs (nI i + 3).toNatClampNeg) I R) f2 (cbW 3 hT cd_Md_going rfl rfl ini_Md ml_law_41 ⟨by decide +kernel, by decide +kernel, by decide +kernel⟩ ⟨Nat.le_of_ble_eq_true rfl, Nat.le_of_ble_eq_true rfl⟩) im_Md_going se_Md_Md_going__Md_going rfl hl.1 rfl (Nat.le_of_ble_eq_true rfl) d_law_328 hc0 (fun H2 locs2 h => ?_)
  refine lv_icmp_eq (tgt := 844) hx hb d_law_331 (by decide) (fun _ => ?_) (fun hc => absurd rfl hc)
  refine W.widen (k := cells + 6) (n := slots + 241) (by omega) (by omega) ?_
  exact kk E F1 G1 P1 N1 I1 R1 H2 locs2 h hR
theorem law_c6 (hn : 300000000 ≤ n) (C : LC p s m args c dC dI cI cZ cW cJ adK adV) (hX : va_X b L xs s s.heap) (hbl : b < s.heap.size) (h : LW s dC dI cI cZ cW cJ adM adC E F G P N I R H locs) (hR : RL E F G P N I R) (hi : i + 5 ≤ L) (hL : L ≤ 320) (hl : lv_has ls 4 [(0, .ref b), (1, .ref (adC 0)), (2, .ref (adM 0)), (3, .int (nI i))]) (hcs : cells + 6 ≤ room_1.cells ∧ slots + 241 ≤ room_1.slots) (kk : ∀ (E1 : PE) (F1 G1 : Nat → Nat → Int32) (P1 : Nat → Nat → Option Nat) (N1 : Nat → Nat) (I1 : Nat → Int32) (R1 : Nat → Nat → Int32) (H1 : Heap) (locs1 : List Loc), LW s dC dI cI cZ cW cJ adM adC E1 F1 G1 P1 N1 I1 R1 H1 locs1 → RL E1 F1 G1 P1 N1 I1 R1 → W p l e room_1 s m args below meth c H1 locs1 (cells + 6) (slots + 241) Q (F0 m 844 ls [])) : W p l e room_1 s m args below meth c H locs cells slots Q (F0 m 336 ls []) := by
  have hx := C.1
  have hb := C.2.1
  have hT := C.2.2.2.2.1
  have hbA : ¬ (fun q : Nat => s.heap.size ≤ q) b := Nat.not_le.mpr hbl
  have hc0 : cells ≤ room_1.cells ∧ slots ≤ room_1.slots := ⟨by omega, by omega⟩
  obtain ⟨r, F1, G1, P1, N1, I1, R1, f1, f2, hR⟩ := st_go (n := n) (v1 := (xs (nI i + 1).toNatClampNeg)) hn hR
  refine lv_aload_n hx hb d_law_336 rfl (lv_at hl 1 rfl) ?_
  refine lv_aload_n hx hb d_law_337 rfl (lv_at hl 0 rfl) ?_
  refine lv_iload_n hx hb d_law_338 rfl (lv_at hl 3 rfl) ?_
  refine lv_iconst (v := 1) hx hb d_law_339 (by decide) ?_
  refine lv_iadd hx hb d_law_340 ?_
  refine va_sld hx hb hX hbl hbA h.2.2.2.2.2.1 (lw_in hi hL (j := 1) (by decide) rfl) d_law_341 ?_
  refine lw_ci (As1 := [.int (xs (nI i + 1).toNatClampNeg)]) (rest := []) C h rfl (c_LB_go l n E (xs (nI i + 1).toNatClampNeg) F G P N) f1 (cbW 1 hT cd_LB_go rfl rfl ini_LB ml_law_42 ⟨by decide +kernel, by decide +kernel, by decide +kernel⟩ ⟨Nat.le_of_ble_eq_true rfl, Nat.le_of_ble_eq_true rfl⟩) im_LB_go se_LB_LB_go__LB_go rfl hl.1 rfl (Nat.le_of_ble_eq_true rfl) d_law_342 hc0 (fun H1 locs1 h => ?_)
  refine lv_aload_n hx hb d_law_345 rfl (lv_at hl 2 rfl) ?_
  refine lv_aload_n hx hb d_law_346 rfl (lv_at hl 0 rfl) ?_
  refine lv_iload_n hx hb d_law_347 rfl (lv_at hl 3 rfl) ?_
  refine lv_iconst (v := 1) hx hb d_law_348 (by decide) ?_
  refine lv_iadd hx hb d_law_349 ?_
  refine va_sld hx hb hX hbl hbA h.2.2.2.2.2.1 (lw_in hi hL (j := 1) (by decide) rfl) d_law_350 ?_
  refine lw_mi (As1 := [.int (xs (nI i + 1).toNatClampNeg)]) (rest := [.int r]) C h rfl (c_Md_go l n (xs (nI i + 1).toNatClampNeg) I R) f2 (cbW 1 hT cd_Md_go rfl rfl ini_Md ml_law_45 ⟨by decide +kernel, by decide +kernel, by decide +kernel⟩ ⟨Nat.le_of_ble_eq_true rfl, Nat.le_of_ble_eq_true rfl⟩) im_Md_go se_Md_Md_go__Md_go rfl hl.1 rfl (Nat.le_of_ble_eq_true rfl) d_law_351 hc0 (fun H2 locs2 h => ?_)
  refine lv_icmp_eq (tgt := 844) hx hb d_law_354 (by decide) (fun _ => ?_) (fun hc => absurd rfl hc)
  refine W.widen (k := cells + 6) (n := slots + 241) (by omega) (by omega) ?_
  exact kk E F1 G1 P1 N1 I1 R1 H2 locs2 h hR
theorem law_c7 (hn : 300000000 ≤ n) (C : LC p s m args c dC dI cI cZ cW cJ adK adV) (hX : va_X b L xs s s.heap) (hbl : b < s.heap.size) (h : LW s dC dI cI cZ cW cJ adM adC E F G P N I R H locs) (hR : RL E F G P N I R) (hi : i + 5 ≤ L) (hL : L ≤ 320) (hl : lv_has ls 4 [(0, .ref b), (1, .ref (adC 0)), (2, .ref (adM 0)), (3, .int (nI i))]) (hcs : cells + 6 ≤ room_1.cells ∧ slots + 241 ≤ room_1.slots) (kk : ∀ (E1 : PE) (F1 G1 : Nat → Nat → Int32) (P1 : Nat → Nat → Option Nat) (N1 : Nat → Nat) (I1 : Nat → Int32) (R1 : Nat → Nat → Int32) (H1 : Heap) (locs1 : List Loc), LW s dC dI cI cZ cW cJ adM adC E1 F1 G1 P1 N1 I1 R1 H1 locs1 → RL E1 F1 G1 P1 N1 I1 R1 → W p l e room_1 s m args below meth c H1 locs1 (cells + 6) (slots + 241) Q (F0 m 844 ls [])) : W p l e room_1 s m args below meth c H locs cells slots Q (F0 m 359 ls []) := by
  have hx := C.1
  have hb := C.2.1
  have hT := C.2.2.2.2.1
  have hbA : ¬ (fun q : Nat => s.heap.size ≤ q) b := Nat.not_le.mpr hbl
  have hc0 : cells ≤ room_1.cells ∧ slots ≤ room_1.slots := ⟨by omega, by omega⟩
  obtain ⟨r, F1, G1, P1, N1, I1, R1, f1, f2, hR⟩ := st_least (n := n) (v := (xs (nI i + 1).toNatClampNeg)) hn hR
  refine lv_aload_n hx hb d_law_359 rfl (lv_at hl 1 rfl) ?_
  refine lv_aload_n hx hb d_law_360 rfl (lv_at hl 0 rfl) ?_
  refine lv_iload_n hx hb d_law_361 rfl (lv_at hl 3 rfl) ?_
  refine lv_iconst (v := 1) hx hb d_law_362 (by decide) ?_
  refine lv_iadd hx hb d_law_363 ?_
  refine va_sld hx hb hX hbl hbA h.2.2.2.2.2.1 (lw_in hi hL (j := 1) (by decide) rfl) d_law_364 ?_
  refine lw_ci (As1 := [.int (xs (nI i + 1).toNatClampNeg)]) (rest := []) C h rfl (c_LB_least l n E (xs (nI i + 1).toNatClampNeg) F G P N) f1 (cbW 1 hT cd_LB_least rfl rfl ini_LB ml_law_46 ⟨by decide +kernel, by decide +kernel, by decide +kernel⟩ ⟨Nat.le_of_ble_eq_true rfl, Nat.le_of_ble_eq_true rfl⟩) im_LB_least se_LB_LB_least__LB_least rfl hl.1 rfl (Nat.le_of_ble_eq_true rfl) d_law_365 hc0 (fun H1 locs1 h => ?_)
  refine lv_aload_n hx hb d_law_368 rfl (lv_at hl 2 rfl) ?_
  refine lv_aload_n hx hb d_law_369 rfl (lv_at hl 0 rfl) ?_
  refine lv_iload_n hx hb d_law_370 rfl (lv_at hl 3 rfl) ?_
  refine lv_iconst (v := 1) hx hb d_law_371 (by decide) ?_
  refine lv_iadd hx hb d_law_372 ?_
  refine va_sld hx hb hX hbl hbA h.2.2.2.2.2.1 (lw_in hi hL (j := 1) (by decide) rfl) d_law_373 ?_
  refine lw_mi (As1 := [.int (xs (nI i + 1).toNatClampNeg)]) (rest := [.int r]) C h rfl (c_Md_least l n (xs (nI i + 1).toNatClampNeg) I R) f2 (cbW 1 hT cd_Md_least rfl rfl ini_Md ml_law_49 ⟨by decide +kernel, by decide +kernel, by decide +kernel⟩ ⟨Nat.le_of_ble_eq_true rfl, Nat.le_of_ble_eq_true rfl⟩) im_Md_least se_Md_Md_least__Md_least rfl hl.1 rfl (Nat.le_of_ble_eq_true rfl) d_law_374 hc0 (fun H2 locs2 h => ?_)
  refine lv_icmp_eq (tgt := 844) hx hb d_law_377 (by decide) (fun _ => ?_) (fun hc => absurd rfl hc)
  refine W.widen (k := cells + 6) (n := slots + 241) (by omega) (by omega) ?_
  exact kk E F1 G1 P1 N1 I1 R1 H2 locs2 h hR
theorem law_c8 (hn : 300000000 ≤ n) (C : LC p s m args c dC dI cI cZ cW cJ adK adV) (hX : va_X b L xs s s.heap) (hbl : b < s.heap.size) (h : LW s dC dI cI cZ cW cJ adM adC E F G P N I R H locs) (hR : RL E F G P N I R) (hi : i + 5 ≤ L) (hL : L ≤ 320) (hl : lv_has ls 4 [(0, .ref b), (1, .ref (adC 0)), (2, .ref (adM 0)), (3, .int (nI i))]) (hcs : cells + 6 ≤ room_1.cells ∧ slots + 241 ≤ room_1.slots) (kk : ∀ (E1 : PE) (F1 G1 : Nat → Nat → Int32) (P1 : Nat → Nat → Option Nat) (N1 : Nat → Nat) (I1 : Nat → Int32) (R1 : Nat → Nat → Int32) (H1 : Heap) (locs1 : List Loc), LW s dC dI cI cZ cW cJ adM adC E1 F1 G1 P1 N1 I1 R1 H1 locs1 → RL E1 F1 G1 P1 N1 I1 R1 → W p l e room_1 s m args below meth c H1 locs1 (cells + 6) (slots + 241) Q (F0 m 844 ls [])) : W p l e room_1 s m args below meth c H locs cells slots Q (F0 m 382 ls []) := by
  have hx := C.1
  have hb := C.2.1
  have hT := C.2.2.2.2.1
  have hbA : ¬ (fun q : Nat => s.heap.size ≤ q) b := Nat.not_le.mpr hbl
  have hc0 : cells ≤ room_1.cells ∧ slots ≤ room_1.slots := ⟨by omega, by omega⟩
  obtain ⟨r, F1, G1, P1, N1, I1, R1, f1, f2, hR⟩ := st_fewest (n := n) (v := (xs (nI i + 1).toNatClampNeg)) hn hR
  refine lv_aload_n hx hb d_law_382 rfl (lv_at hl 1 rfl) ?_
  refine lv_aload_n hx hb d_law_383 rfl (lv_at hl 0 rfl) ?_
  refine lv_iload_n hx hb d_law_384 rfl (lv_at hl 3 rfl) ?_
  refine lv_iconst (v := 1) hx hb d_law_385 (by decide) ?_
  refine lv_iadd hx hb d_law_386 ?_
  refine va_sld hx hb hX hbl hbA h.2.2.2.2.2.1 (lw_in hi hL (j := 1) (by decide) rfl) d_law_387 ?_
  refine lw_ci (As1 := [.int (xs (nI i + 1).toNatClampNeg)]) (rest := []) C h rfl (c_LB_fewest l n E (xs (nI i + 1).toNatClampNeg) F G P N) f1 (cbW 1 hT cd_LB_fewest rfl rfl ini_LB ml_law_50 ⟨by decide +kernel, by decide +kernel, by decide +kernel⟩ ⟨Nat.le_of_ble_eq_true rfl, Nat.le_of_ble_eq_true rfl⟩) im_LB_fewest se_LB_LB_fewest__LB_fewest rfl hl.1 rfl (Nat.le_of_ble_eq_true rfl) d_law_388 hc0 (fun H1 locs1 h => ?_)
  refine lv_aload_n hx hb d_law_391 rfl (lv_at hl 2 rfl) ?_
  refine lv_aload_n hx hb d_law_392 rfl (lv_at hl 0 rfl) ?_
  refine lv_iload_n hx hb d_law_393 rfl (lv_at hl 3 rfl) ?_
  refine lv_iconst (v := 1) hx hb d_law_394 (by decide) ?_
  refine lv_iadd hx hb d_law_395 ?_
  refine va_sld hx hb hX hbl hbA h.2.2.2.2.2.1 (lw_in hi hL (j := 1) (by decide) rfl) d_law_396 ?_
  refine lw_mi (As1 := [.int (xs (nI i + 1).toNatClampNeg)]) (rest := [.int r]) C h rfl (c_Md_fewest l n (xs (nI i + 1).toNatClampNeg) I R) f2 (cbW 1 hT cd_Md_fewest rfl rfl ini_Md ml_law_53 ⟨by decide +kernel, by decide +kernel, by decide +kernel⟩ ⟨Nat.le_of_ble_eq_true rfl, Nat.le_of_ble_eq_true rfl⟩) im_Md_fewest se_Md_Md_fewest__Md_fewest rfl hl.1 rfl (Nat.le_of_ble_eq_true rfl) d_law_397 hc0 (fun H2 locs2 h => ?_)
  refine lv_icmp_eq (tgt := 844) hx hb d_law_400 (by decide) (fun _ => ?_) (fun hc => absurd rfl hc)
  refine W.widen (k := cells + 6) (n := slots + 241) (by omega) (by omega) ?_
  exact kk E F1 G1 P1 N1 I1 R1 H2 locs2 h hR
theorem law_c9 (hn : 300000000 ≤ n) (C : LC p s m args c dC dI cI cZ cW cJ adK adV) (hX : va_X b L xs s s.heap) (hbl : b < s.heap.size) (h : LW s dC dI cI cZ cW cJ adM adC E F G P N I R H locs) (hR : RL E F G P N I R) (hi : i + 5 ≤ L) (hL : L ≤ 320) (hl : lv_has ls 4 [(0, .ref b), (1, .ref (adC 0)), (2, .ref (adM 0)), (3, .int (nI i))]) (hcs : cells + 6 ≤ room_1.cells ∧ slots + 241 ≤ room_1.slots) (kk : ∀ (E1 : PE) (F1 G1 : Nat → Nat → Int32) (P1 : Nat → Nat → Option Nat) (N1 : Nat → Nat) (I1 : Nat → Int32) (R1 : Nat → Nat → Int32) (H1 : Heap) (locs1 : List Loc), LW s dC dI cI cZ cW cJ adM adC E1 F1 G1 P1 N1 I1 R1 H1 locs1 → RL E1 F1 G1 P1 N1 I1 R1 → W p l e room_1 s m args below meth c H1 locs1 (cells + 6) (slots + 241) Q (F0 m 844 ls [])) : W p l e room_1 s m args below meth c H locs cells slots Q (F0 m 405 ls []) := by
  have hx := C.1
  have hb := C.2.1
  have hT := C.2.2.2.2.1
  have hbA : ¬ (fun q : Nat => s.heap.size ≤ q) b := Nat.not_le.mpr hbl
  have hc0 : cells ≤ room_1.cells ∧ slots ≤ room_1.slots := ⟨by omega, by omega⟩
  obtain ⟨r, F1, G1, P1, N1, I1, R1, f1, f2, hR⟩ := st_first (n := n) (v := (xs (nI i + 1).toNatClampNeg)) hn hR
  refine lv_aload_n hx hb d_law_405 rfl (lv_at hl 1 rfl) ?_
  refine lv_aload_n hx hb d_law_406 rfl (lv_at hl 0 rfl) ?_
  refine lv_iload_n hx hb d_law_407 rfl (lv_at hl 3 rfl) ?_
  refine lv_iconst (v := 1) hx hb d_law_408 (by decide) ?_
  refine lv_iadd hx hb d_law_409 ?_
  refine va_sld hx hb hX hbl hbA h.2.2.2.2.2.1 (lw_in hi hL (j := 1) (by decide) rfl) d_law_410 ?_
  refine lw_ci (As1 := [.int (xs (nI i + 1).toNatClampNeg)]) (rest := []) C h rfl (c_LB_first l n E (xs (nI i + 1).toNatClampNeg) F G P N) f1 (cbW 1 hT cd_LB_first rfl rfl ini_LB ml_law_54 ⟨by decide +kernel, by decide +kernel, by decide +kernel⟩ ⟨Nat.le_of_ble_eq_true rfl, Nat.le_of_ble_eq_true rfl⟩) im_LB_first se_LB_LB_first__LB_first rfl hl.1 rfl (Nat.le_of_ble_eq_true rfl) d_law_411 hc0 (fun H1 locs1 h => ?_)
  refine lv_aload_n hx hb d_law_414 rfl (lv_at hl 2 rfl) ?_
  refine lv_aload_n hx hb d_law_415 rfl (lv_at hl 0 rfl) ?_
  refine lv_iload_n hx hb d_law_416 rfl (lv_at hl 3 rfl) ?_
  refine lv_iconst (v := 1) hx hb d_law_417 (by decide) ?_
  refine lv_iadd hx hb d_law_418 ?_
  refine va_sld hx hb hX hbl hbA h.2.2.2.2.2.1 (lw_in hi hL (j := 1) (by decide) rfl) d_law_419 ?_
  refine lw_mi (As1 := [.int (xs (nI i + 1).toNatClampNeg)]) (rest := [.int r]) C h rfl (c_Md_first l n (xs (nI i + 1).toNatClampNeg) I R) f2 (cbW 1 hT cd_Md_first rfl rfl ini_Md ml_law_57 ⟨by decide +kernel, by decide +kernel, by decide +kernel⟩ ⟨Nat.le_of_ble_eq_true rfl, Nat.le_of_ble_eq_true rfl⟩) im_Md_first se_Md_Md_first__Md_first rfl hl.1 rfl (Nat.le_of_ble_eq_true rfl) d_law_420 hc0 (fun H2 locs2 h => ?_)
  refine lv_icmp_eq (tgt := 844) hx hb d_law_423 (by decide) (fun _ => ?_) (fun hc => absurd rfl hc)
  refine W.widen (k := cells + 6) (n := slots + 241) (by omega) (by omega) ?_
  exact kk E F1 G1 P1 N1 I1 R1 H2 locs2 h hR
theorem law_c10 (hn : 300000000 ≤ n) (C : LC p s m args c dC dI cI cZ cW cJ adK adV) (hX : va_X b L xs s s.heap) (hbl : b < s.heap.size) (h : LW s dC dI cI cZ cW cJ adM adC E F G P N I R H locs) (hR : RL E F G P N I R) (hi : i + 5 ≤ L) (hL : L ≤ 320) (hl : lv_has ls 4 [(0, .ref b), (1, .ref (adC 0)), (2, .ref (adM 0)), (3, .int (nI i))]) (hcs : cells + 6 ≤ room_1.cells ∧ slots + 241 ≤ room_1.slots) (kk : ∀ (E1 : PE) (F1 G1 : Nat → Nat → Int32) (P1 : Nat → Nat → Option Nat) (N1 : Nat → Nat) (I1 : Nat → Int32) (R1 : Nat → Nat → Int32) (H1 : Heap) (locs1 : List Loc), LW s dC dI cI cZ cW cJ adM adC E1 F1 G1 P1 N1 I1 R1 H1 locs1 → RL E1 F1 G1 P1 N1 I1 R1 → W p l e room_1 s m args below meth c H1 locs1 (cells + 6) (slots + 241) Q (F0 m 844 ls [])) : W p l e room_1 s m args below meth c H locs cells slots Q (F0 m 428 ls []) := by
  have hx := C.1
  have hb := C.2.1
  have hT := C.2.2.2.2.1
  have hbA : ¬ (fun q : Nat => s.heap.size ≤ q) b := Nat.not_le.mpr hbl
  have hc0 : cells ≤ room_1.cells ∧ slots ≤ room_1.slots := ⟨by omega, by omega⟩
  obtain ⟨r, F1, G1, P1, N1, I1, R1, f1, f2, hR⟩ := st_by (n := n) (v1 := (xs (nI i + 1).toNatClampNeg)) (v2 := (xs (nI i + 2).toNatClampNeg)) hn hR
  refine lv_aload_n hx hb d_law_428 rfl (lv_at hl 1 rfl) ?_
  refine lv_aload_n hx hb d_law_429 rfl (lv_at hl 0 rfl) ?_
  refine lv_iload_n hx hb d_law_430 rfl (lv_at hl 3 rfl) ?_
  refine lv_iconst (v := 1) hx hb d_law_431 (by decide) ?_
  refine lv_iadd hx hb d_law_432 ?_
  refine va_sld hx hb hX hbl hbA h.2.2.2.2.2.1 (lw_in hi hL (j := 1) (by decide) rfl) d_law_433 ?_
  refine lv_aload_n hx hb d_law_434 rfl (lv_at hl 0 rfl) ?_
  refine lv_iload_n hx hb d_law_435 rfl (lv_at hl 3 rfl) ?_
  refine lv_iconst (v := 2) hx hb d_law_436 (by decide) ?_
  refine lv_iadd hx hb d_law_437 ?_
  refine va_sld hx hb hX hbl hbA h.2.2.2.2.2.1 (lw_in hi hL (j := 2) (by decide) rfl) d_law_438 ?_
  refine lw_ci (As1 := [.int (xs (nI i + 1).toNatClampNeg), .int (xs (nI i + 2).toNatClampNeg)]) (rest := []) C h rfl (c_LB_by l n E (xs (nI i + 1).toNatClampNeg) (xs (nI i + 2).toNatClampNeg) F G P N) f1 (cbW 2 hT cd_LB_by rfl rfl ini_LB ml_law_58 ⟨by decide +kernel, by decide +kernel, by decide +kernel⟩ ⟨Nat.le_of_ble_eq_true rfl, Nat.le_of_ble_eq_true rfl⟩) im_LB_by se_LB_LB_by__LB_by rfl hl.1 rfl (Nat.le_of_ble_eq_true rfl) d_law_439 hc0 (fun H1 locs1 h => ?_)
  refine lv_aload_n hx hb d_law_442 rfl (lv_at hl 2 rfl) ?_
  refine lv_aload_n hx hb d_law_443 rfl (lv_at hl 0 rfl) ?_
  refine lv_iload_n hx hb d_law_444 rfl (lv_at hl 3 rfl) ?_
  refine lv_iconst (v := 1) hx hb d_law_445 (by decide) ?_
  refine lv_iadd hx hb d_law_446 ?_
  refine va_sld hx hb hX hbl hbA h.2.2.2.2.2.1 (lw_in hi hL (j := 1) (by decide) rfl) d_law_447 ?_
  refine lv_aload_n hx hb d_law_448 rfl (lv_at hl 0 rfl) ?_
  refine lv_iload_n hx hb d_law_449 rfl (lv_at hl 3 rfl) ?_
  refine lv_iconst (v := 2) hx hb d_law_450 (by decide) ?_
  refine lv_iadd hx hb d_law_451 ?_
  refine va_sld hx hb hX hbl hbA h.2.2.2.2.2.1 (lw_in hi hL (j := 2) (by decide) rfl) d_law_452 ?_
  refine lw_mi (As1 := [.int (xs (nI i + 1).toNatClampNeg), .int (xs (nI i + 2).toNatClampNeg)]) (rest := [.int r]) C h rfl (c_Md_by l n (xs (nI i + 1).toNatClampNeg) (xs (nI i + 2).toNatClampNeg) I R) f2 (cbW 2 hT cd_Md_by rfl rfl ini_Md ml_law_61 ⟨by decide +kernel, by decide +kernel, by decide +kernel⟩ ⟨Nat.le_of_ble_eq_true rfl, Nat.le_of_ble_eq_true rfl⟩) im_Md_by se_Md_Md_by__Md_by rfl hl.1 rfl (Nat.le_of_ble_eq_true rfl) d_law_453 hc0 (fun H2 locs2 h => ?_)
  refine lv_icmp_eq (tgt := 844) hx hb d_law_456 (by decide) (fun _ => ?_) (fun hc => absurd rfl hc)
  refine W.widen (k := cells + 6) (n := slots + 241) (by omega) (by omega) ?_
  exact kk E F1 G1 P1 N1 I1 R1 H2 locs2 h hR
theorem law_c11 (hn : 300000000 ≤ n) (C : LC p s m args c dC dI cI cZ cW cJ adK adV) (hX : va_X b L xs s s.heap) (hbl : b < s.heap.size) (h : LW s dC dI cI cZ cW cJ adM adC E F G P N I R H locs) (hR : RL E F G P N I R) (hi : i + 5 ≤ L) (hL : L ≤ 320) (hl : lv_has ls 4 [(0, .ref b), (1, .ref (adC 0)), (2, .ref (adM 0)), (3, .int (nI i))]) (hcs : cells + 6 ≤ room_1.cells ∧ slots + 241 ≤ room_1.slots) (kk : ∀ (E1 : PE) (F1 G1 : Nat → Nat → Int32) (P1 : Nat → Nat → Option Nat) (N1 : Nat → Nat) (I1 : Nat → Int32) (R1 : Nat → Nat → Int32) (H1 : Heap) (locs1 : List Loc), LW s dC dI cI cZ cW cJ adM adC E1 F1 G1 P1 N1 I1 R1 H1 locs1 → RL E1 F1 G1 P1 N1 I1 R1 → W p l e room_1 s m args below meth c H1 locs1 (cells + 6) (slots + 241) Q (F0 m 844 ls [])) : W p l e room_1 s m args below meth c H locs cells slots Q (F0 m 461 ls []) := by
  have hx := C.1
  have hb := C.2.1
  have hT := C.2.2.2.2.1
  have hbA : ¬ (fun q : Nat => s.heap.size ≤ q) b := Nat.not_le.mpr hbl
  have hc0 : cells ≤ room_1.cells ∧ slots ≤ room_1.slots := ⟨by omega, by omega⟩
  obtain ⟨z, f1, f3, f2⟩ := st_quicker (n := n) (v1 := (xs (nI i + 1).toNatClampNeg)) hn hR
  refine lv_aload_n hx hb d_law_461 rfl (lv_at hl 1 rfl) ?_
  refine lv_aload_n hx hb d_law_462 rfl (lv_at hl 0 rfl) ?_
  refine lv_iload_n hx hb d_law_463 rfl (lv_at hl 3 rfl) ?_
  refine lv_iconst (v := 1) hx hb d_law_464 (by decide) ?_
  refine lv_iadd hx hb d_law_465 ?_
  refine va_sld hx hb hX hbl hbA h.2.2.2.2.2.1 (lw_in hi hL (j := 1) (by decide) rfl) d_law_466 ?_
  refine lw_ca (As1 := [.int (xs (nI i + 1).toNatClampNeg)]) (rest := []) C h rfl (c_LB_quicker l n E (xs (nI i + 1).toNatClampNeg) F G P N z f1 f3) (callB_of 1 hT (goodW cd_LB_quicker) rfl rfl rfl (hT _ ini_LB) (hT _ ml_law_62) ⟨by decide +kernel, by decide +kernel, by decide +kernel⟩ ⟨Nat.le_of_ble_eq_true rfl, Nat.le_of_ble_eq_true rfl⟩) im_LB_quicker se_LB_LB_quicker__LB_quicker rfl hl.1 rfl (Nat.le_of_ble_eq_true rfl) d_law_467 ⟨by omega, by omega⟩ (fun r u E1 H1 locs1 hp h => ?_)
  obtain ⟨I1, R1, g1, hR⟩ := f2 r u E1 hp
  refine lv_aload_n hx hb d_law_470 rfl (lv_at hl 2 rfl) ?_
  refine lv_aload_n hx hb d_law_471 rfl (lv_at hl 0 rfl) ?_
  refine lv_iload_n hx hb d_law_472 rfl (lv_at hl 3 rfl) ?_
  refine lv_iconst (v := 1) hx hb d_law_473 (by decide) ?_
  refine lv_iadd hx hb d_law_474 ?_
  refine va_sld hx hb hX hbl hbA h.2.2.2.2.2.1 (lw_in hi hL (j := 1) (by decide) rfl) d_law_475 ?_
  refine lw_mi (As1 := [.int (xs (nI i + 1).toNatClampNeg)]) (rest := [.int r]) C h rfl (c_Md_quicker l n (xs (nI i + 1).toNatClampNeg) I R) g1 (cbW 1 hT cd_Md_quicker rfl rfl ini_Md ml_law_65 ⟨by decide +kernel, by decide +kernel, by decide +kernel⟩ ⟨Nat.le_of_ble_eq_true rfl, Nat.le_of_ble_eq_true rfl⟩) im_Md_quicker se_Md_Md_quicker__Md_quicker rfl hl.1 rfl (Nat.le_of_ble_eq_true rfl) d_law_476 ⟨by omega, by omega⟩ (fun H2 locs2 h => ?_)
  refine lv_icmp_eq (tgt := 844) hx hb d_law_479 (by decide) (fun _ => ?_) (fun hc => absurd rfl hc)
  refine W.widen (k := cells + 6) (n := slots + 241) (by omega) (by omega) ?_
  exact kk E1 u.1 u.2.1 u.2.2.1 u.2.2.2 I1 R1 H2 locs2 h hR
theorem law_c12 (hn : 300000000 ≤ n) (C : LC p s m args c dC dI cI cZ cW cJ adK adV) (hX : va_X b L xs s s.heap) (hbl : b < s.heap.size) (h : LW s dC dI cI cZ cW cJ adM adC E F G P N I R H locs) (hR : RL E F G P N I R) (hi : i + 5 ≤ L) (hL : L ≤ 320) (hl : lv_has ls 4 [(0, .ref b), (1, .ref (adC 0)), (2, .ref (adM 0)), (3, .int (nI i))]) (hcs : cells + 6 ≤ room_1.cells ∧ slots + 241 ≤ room_1.slots) (kk : ∀ (E1 : PE) (F1 G1 : Nat → Nat → Int32) (P1 : Nat → Nat → Option Nat) (N1 : Nat → Nat) (I1 : Nat → Int32) (R1 : Nat → Nat → Int32) (H1 : Heap) (locs1 : List Loc), LW s dC dI cI cZ cW cJ adM adC E1 F1 G1 P1 N1 I1 R1 H1 locs1 → RL E1 F1 G1 P1 N1 I1 R1 → W p l e room_1 s m args below meth c H1 locs1 (cells + 6) (slots + 241) Q (F0 m 844 ls [])) : W p l e room_1 s m args below meth c H locs cells slots Q (F0 m 484 ls []) := by
  have hx := C.1
  have hb := C.2.1
  have hT := C.2.2.2.2.1
  have hbA : ¬ (fun q : Nat => s.heap.size ≤ q) b := Nat.not_le.mpr hbl
  have hc0 : cells ≤ room_1.cells ∧ slots ≤ room_1.slots := ⟨by omega, by omega⟩
  obtain ⟨r, F1, G1, P1, N1, I1, R1, f1, f2, hR⟩ := st_leave (n := n) hn hR
  refine lv_aload_n hx hb d_law_484 rfl (lv_at hl 1 rfl) ?_
  refine lw_ci (As1 := []) (rest := []) C h rfl (c_LB_leave l n E F G P N) f1 (cbW 0 hT cd_LB_leave rfl rfl ini_LB ml_law_66 ⟨by decide +kernel, by decide +kernel, by decide +kernel⟩ ⟨Nat.le_of_ble_eq_true rfl, Nat.le_of_ble_eq_true rfl⟩) im_LB_leave se_LB_LB_leave__LB_leave rfl hl.1 rfl (Nat.le_of_ble_eq_true rfl) d_law_485 hc0 (fun H1 locs1 h => ?_)
  refine lv_aload_n hx hb d_law_488 rfl (lv_at hl 2 rfl) ?_
  refine lw_mi (As1 := []) (rest := [.int r]) C h rfl (c_Md_leave l n I R) f2 (cbW 0 hT cd_Md_leave rfl rfl ini_Md ml_law_69 ⟨by decide +kernel, by decide +kernel, by decide +kernel⟩ ⟨Nat.le_of_ble_eq_true rfl, Nat.le_of_ble_eq_true rfl⟩) im_Md_leave se_Md_Md_leave__Md_leave rfl hl.1 rfl (Nat.le_of_ble_eq_true rfl) d_law_489 hc0 (fun H2 locs2 h => ?_)
  refine lv_icmp_eq (tgt := 844) hx hb d_law_492 (by decide) (fun _ => ?_) (fun hc => absurd rfl hc)
  refine W.widen (k := cells + 6) (n := slots + 241) (by omega) (by omega) ?_
  exact kk E F1 G1 P1 N1 I1 R1 H2 locs2 h hR
theorem law_c13 (hn : 300000000 ≤ n) (C : LC p s m args c dC dI cI cZ cW cJ adK adV) (hX : va_X b L xs s s.heap) (hbl : b < s.heap.size) (h : LW s dC dI cI cZ cW cJ adM adC E F G P N I R H locs) (hR : RL E F G P N I R) (hi : i + 5 ≤ L) (hL : L ≤ 320) (hl : lv_has ls 4 [(0, .ref b), (1, .ref (adC 0)), (2, .ref (adM 0)), (3, .int (nI i))]) (hcs : cells + 6 ≤ room_1.cells ∧ slots + 241 ≤ room_1.slots) (kk : ∀ (E1 : PE) (F1 G1 : Nat → Nat → Int32) (P1 : Nat → Nat → Option Nat) (N1 : Nat → Nat) (I1 : Nat → Int32) (R1 : Nat → Nat → Int32) (H1 : Heap) (locs1 : List Loc), LW s dC dI cI cZ cW cJ adM adC E1 F1 G1 P1 N1 I1 R1 H1 locs1 → RL E1 F1 G1 P1 N1 I1 R1 → W p l e room_1 s m args below meth c H1 locs1 (cells + 6) (slots + 241) Q (F0 m 844 ls [])) : W p l e room_1 s m args below meth c H locs cells slots Q (F0 m 497 ls []) := by
  have hx := C.1
  have hb := C.2.1
  have hT := C.2.2.2.2.1
  have hbA : ¬ (fun q : Nat => s.heap.size ≤ q) b := Nat.not_le.mpr hbl
  have hc0 : cells ≤ room_1.cells ∧ slots ≤ room_1.slots := ⟨by omega, by omega⟩
  obtain ⟨r, F1, G1, P1, N1, I1, R1, f1, f2, hR⟩ := st_rule (n := n) (v1 := (xs (nI i + 1).toNatClampNeg)) (v2 := (xs (nI i + 2).toNatClampNeg)) hn hR
  refine lv_aload_n hx hb d_law_497 rfl (lv_at hl 1 rfl) ?_
  refine lv_aload_n hx hb d_law_498 rfl (lv_at hl 0 rfl) ?_
  refine lv_iload_n hx hb d_law_499 rfl (lv_at hl 3 rfl) ?_
  refine lv_iconst (v := 1) hx hb d_law_500 (by decide) ?_
  refine lv_iadd hx hb d_law_501 ?_
  refine va_sld hx hb hX hbl hbA h.2.2.2.2.2.1 (lw_in hi hL (j := 1) (by decide) rfl) d_law_502 ?_
  refine lv_aload_n hx hb d_law_503 rfl (lv_at hl 0 rfl) ?_
  refine lv_iload_n hx hb d_law_504 rfl (lv_at hl 3 rfl) ?_
  refine lv_iconst (v := 2) hx hb d_law_505 (by decide) ?_
  refine lv_iadd hx hb d_law_506 ?_
  refine va_sld hx hb hX hbl hbA h.2.2.2.2.2.1 (lw_in hi hL (j := 2) (by decide) rfl) d_law_507 ?_
  refine lw_ci (As1 := [.int (xs (nI i + 1).toNatClampNeg), .int (xs (nI i + 2).toNatClampNeg)]) (rest := []) C h rfl (c_LB_rule l n E (xs (nI i + 1).toNatClampNeg) (xs (nI i + 2).toNatClampNeg) F G P N) f1 (cbW 2 hT cd_LB_rule rfl rfl ini_LB ml_law_70 ⟨by decide +kernel, by decide +kernel, by decide +kernel⟩ ⟨Nat.le_of_ble_eq_true rfl, Nat.le_of_ble_eq_true rfl⟩) im_LB_rule se_LB_LB_rule__LB_rule rfl hl.1 rfl (Nat.le_of_ble_eq_true rfl) d_law_508 hc0 (fun H1 locs1 h => ?_)
  refine lv_aload_n hx hb d_law_511 rfl (lv_at hl 2 rfl) ?_
  refine lv_aload_n hx hb d_law_512 rfl (lv_at hl 0 rfl) ?_
  refine lv_iload_n hx hb d_law_513 rfl (lv_at hl 3 rfl) ?_
  refine lv_iconst (v := 1) hx hb d_law_514 (by decide) ?_
  refine lv_iadd hx hb d_law_515 ?_
  refine va_sld hx hb hX hbl hbA h.2.2.2.2.2.1 (lw_in hi hL (j := 1) (by decide) rfl) d_law_516 ?_
  refine lv_aload_n hx hb d_law_517 rfl (lv_at hl 0 rfl) ?_
  refine lv_iload_n hx hb d_law_518 rfl (lv_at hl 3 rfl) ?_
  refine lv_iconst (v := 2) hx hb d_law_519 (by decide) ?_
  refine lv_iadd hx hb d_law_520 ?_
  refine va_sld hx hb hX hbl hbA h.2.2.2.2.2.1 (lw_in hi hL (j := 2) (by decide) rfl) d_law_521 ?_
  refine lw_mi (As1 := [.int (xs (nI i + 1).toNatClampNeg), .int (xs (nI i + 2).toNatClampNeg)]) (rest := [.int r]) C h rfl (c_Md_rule l n (xs (nI i + 1).toNatClampNeg) (xs (nI i + 2).toNatClampNeg) I R) f2 (cbW 2 hT cd_Md_rule rfl rfl ini_Md ml_law_73 ⟨by decide +kernel, by decide +kernel, by decide +kernel⟩ ⟨Nat.le_of_ble_eq_true rfl, Nat.le_of_ble_eq_true rfl⟩) im_Md_rule se_Md_Md_rule__Md_rule rfl hl.1 rfl (Nat.le_of_ble_eq_true rfl) d_law_522 hc0 (fun H2 locs2 h => ?_)
  refine lv_icmp_eq (tgt := 844) hx hb d_law_525 (by decide) (fun _ => ?_) (fun hc => absurd rfl hc)
  refine W.widen (k := cells + 6) (n := slots + 241) (by omega) (by omega) ?_
  exact kk E F1 G1 P1 N1 I1 R1 H2 locs2 h hR
theorem law_c14 (hn : 300000000 ≤ n) (C : LC p s m args c dC dI cI cZ cW cJ adK adV) (hX : va_X b L xs s s.heap) (hbl : b < s.heap.size) (h : LW s dC dI cI cZ cW cJ adM adC E F G P N I R H locs) (hR : RL E F G P N I R) (hi : i + 5 ≤ L) (hL : L ≤ 320) (hl : lv_has ls 4 [(0, .ref b), (1, .ref (adC 0)), (2, .ref (adM 0)), (3, .int (nI i))]) (hcs : cells + 6 ≤ room_1.cells ∧ slots + 241 ≤ room_1.slots) (kk : ∀ (E1 : PE) (F1 G1 : Nat → Nat → Int32) (P1 : Nat → Nat → Option Nat) (N1 : Nat → Nat) (I1 : Nat → Int32) (R1 : Nat → Nat → Int32) (H1 : Heap) (locs1 : List Loc), LW s dC dI cI cZ cW cJ adM adC E1 F1 G1 P1 N1 I1 R1 H1 locs1 → RL E1 F1 G1 P1 N1 I1 R1 → W p l e room_1 s m args below meth c H1 locs1 (cells + 6) (slots + 241) Q (F0 m 844 ls [])) : W p l e room_1 s m args below meth c H locs cells slots Q (F0 m 530 ls []) := by
  have hx := C.1
  have hb := C.2.1
  have hT := C.2.2.2.2.1
  have hbA : ¬ (fun q : Nat => s.heap.size ≤ q) b := Nat.not_le.mpr hbl
  have hc0 : cells ≤ room_1.cells ∧ slots ≤ room_1.slots := ⟨by omega, by omega⟩
  obtain ⟨r, F1, G1, P1, N1, I1, R1, f1, f2, hR⟩ := st_seen (n := n) (v1 := (xs (nI i + 1).toNatClampNeg)) (v2 := (xs (nI i + 2).toNatClampNeg)) hR
  refine lv_aload_n hx hb d_law_530 rfl (lv_at hl 1 rfl) ?_
  refine lv_aload_n hx hb d_law_531 rfl (lv_at hl 0 rfl) ?_
  refine lv_iload_n hx hb d_law_532 rfl (lv_at hl 3 rfl) ?_
  refine lv_iconst (v := 1) hx hb d_law_533 (by decide) ?_
  refine lv_iadd hx hb d_law_534 ?_
  refine va_sld hx hb hX hbl hbA h.2.2.2.2.2.1 (lw_in hi hL (j := 1) (by decide) rfl) d_law_535 ?_
  refine lv_aload_n hx hb d_law_536 rfl (lv_at hl 0 rfl) ?_
  refine lv_iload_n hx hb d_law_537 rfl (lv_at hl 3 rfl) ?_
  refine lv_iconst (v := 2) hx hb d_law_538 (by decide) ?_
  refine lv_iadd hx hb d_law_539 ?_
  refine va_sld hx hb hX hbl hbA h.2.2.2.2.2.1 (lw_in hi hL (j := 2) (by decide) rfl) d_law_540 ?_
  refine lw_ci (As1 := [.int (xs (nI i + 1).toNatClampNeg), .int (xs (nI i + 2).toNatClampNeg)]) (rest := []) C h rfl (c_LB_seen l n E (xs (nI i + 1).toNatClampNeg) (xs (nI i + 2).toNatClampNeg) F G P N) f1 (cbW 2 hT cd_LB_seen rfl rfl ini_LB ml_law_74 ⟨by decide +kernel, by decide +kernel, by decide +kernel⟩ ⟨Nat.le_of_ble_eq_true rfl, Nat.le_of_ble_eq_true rfl⟩) im_LB_seen se_LB_LB_seen__LB_seen rfl hl.1 rfl (Nat.le_of_ble_eq_true rfl) d_law_541 hc0 (fun H1 locs1 h => ?_)
  refine lv_aload_n hx hb d_law_544 rfl (lv_at hl 2 rfl) ?_
  refine lv_aload_n hx hb d_law_545 rfl (lv_at hl 0 rfl) ?_
  refine lv_iload_n hx hb d_law_546 rfl (lv_at hl 3 rfl) ?_
  refine lv_iconst (v := 1) hx hb d_law_547 (by decide) ?_
  refine lv_iadd hx hb d_law_548 ?_
  refine va_sld hx hb hX hbl hbA h.2.2.2.2.2.1 (lw_in hi hL (j := 1) (by decide) rfl) d_law_549 ?_
  refine lv_aload_n hx hb d_law_550 rfl (lv_at hl 0 rfl) ?_
  refine lv_iload_n hx hb d_law_551 rfl (lv_at hl 3 rfl) ?_
  refine lv_iconst (v := 2) hx hb d_law_552 (by decide) ?_
  refine lv_iadd hx hb d_law_553 ?_
  refine va_sld hx hb hX hbl hbA h.2.2.2.2.2.1 (lw_in hi hL (j := 2) (by decide) rfl) d_law_554 ?_
  refine lw_mi (As1 := [.int (xs (nI i + 1).toNatClampNeg), .int (xs (nI i + 2).toNatClampNeg)]) (rest := [.int r]) C h rfl (c_Md_seen l n (xs (nI i + 1).toNatClampNeg) (xs (nI i + 2).toNatClampNeg) I R) f2 (cbW 2 hT cd_Md_seen rfl rfl ini_Md ml_law_77 ⟨by decide +kernel, by decide +kernel, by decide +kernel⟩ ⟨Nat.le_of_ble_eq_true rfl, Nat.le_of_ble_eq_true rfl⟩) im_Md_seen se_Md_Md_seen__Md_seen rfl hl.1 rfl (Nat.le_of_ble_eq_true rfl) d_law_555 hc0 (fun H2 locs2 h => ?_)
  refine lv_icmp_eq (tgt := 844) hx hb d_law_558 (by decide) (fun _ => ?_) (fun hc => absurd rfl hc)
  refine W.widen (k := cells + 6) (n := slots + 241) (by omega) (by omega) ?_
  exact kk E F1 G1 P1 N1 I1 R1 H2 locs2 h hR
theorem law_c15 (hn : 300000000 ≤ n) (C : LC p s m args c dC dI cI cZ cW cJ adK adV) (hX : va_X b L xs s s.heap) (hbl : b < s.heap.size) (h : LW s dC dI cI cZ cW cJ adM adC E F G P N I R H locs) (hR : RL E F G P N I R) (hi : i + 5 ≤ L) (hL : L ≤ 320) (hl : lv_has ls 4 [(0, .ref b), (1, .ref (adC 0)), (2, .ref (adM 0)), (3, .int (nI i))]) (hcs : cells + 6 ≤ room_1.cells ∧ slots + 241 ≤ room_1.slots) (kk : ∀ (E1 : PE) (F1 G1 : Nat → Nat → Int32) (P1 : Nat → Nat → Option Nat) (N1 : Nat → Nat) (I1 : Nat → Int32) (R1 : Nat → Nat → Int32) (H1 : Heap) (locs1 : List Loc), LW s dC dI cI cZ cW cJ adM adC E1 F1 G1 P1 N1 I1 R1 H1 locs1 → RL E1 F1 G1 P1 N1 I1 R1 → W p l e room_1 s m args below meth c H1 locs1 (cells + 6) (slots + 241) Q (F0 m 844 ls [])) : W p l e room_1 s m args below meth c H locs cells slots Q (F0 m 563 ls []) := by
  have hx := C.1
  have hb := C.2.1
  have hT := C.2.2.2.2.1
  have hbA : ¬ (fun q : Nat => s.heap.size ≤ q) b := Nat.not_le.mpr hbl
  have hc0 : cells ≤ room_1.cells ∧ slots ≤ room_1.slots := ⟨by omega, by omega⟩
  obtain ⟨r, f1, f2⟩ := st_span (n := n) (v1 := (xs (nI i + 1).toNatClampNeg)) (v2 := (xs (nI i + 2).toNatClampNeg)) hn hR
  refine lv_aload_n hx hb d_law_563 rfl (lv_at hl 1 rfl) ?_
  refine lv_aload_n hx hb d_law_564 rfl (lv_at hl 0 rfl) ?_
  refine lv_iload_n hx hb d_law_565 rfl (lv_at hl 3 rfl) ?_
  refine lv_iconst (v := 1) hx hb d_law_566 (by decide) ?_
  refine lv_iadd hx hb d_law_567 ?_
  refine va_sld hx hb hX hbl hbA h.2.2.2.2.2.1 (lw_in hi hL (j := 1) (by decide) rfl) d_law_568 ?_
  refine lv_aload_n hx hb d_law_569 rfl (lv_at hl 0 rfl) ?_
  refine lv_iload_n hx hb d_law_570 rfl (lv_at hl 3 rfl) ?_
  refine lv_iconst (v := 2) hx hb d_law_571 (by decide) ?_
  refine lv_iadd hx hb d_law_572 ?_
  refine va_sld hx hb hX hbl hbA h.2.2.2.2.2.1 (lw_in hi hL (j := 2) (by decide) rfl) d_law_573 ?_
  refine lw_ri (As1 := [.int (xs (nI i + 1).toNatClampNeg), .int (xs (nI i + 2).toNatClampNeg)]) (rest := []) C h (c_LB_span l n E F G P N dC dI adC cI cZ cW cJ (xs (nI i + 1).toNatClampNeg) (xs (nI i + 2).toNatClampNeg)) f1 (cbW 2 hT cd_LB_span rfl rfl ini_LB ml_law_78 ⟨by decide +kernel, by decide +kernel, by decide +kernel⟩ ⟨Nat.le_of_ble_eq_true rfl, Nat.le_of_ble_eq_true rfl⟩) im_LB_span se_LB_LB_span__LB_span rfl hl.1 rfl (Nat.le_of_ble_eq_true rfl) d_law_574 hc0 ?_
  refine lv_aload_n hx hb d_law_577 rfl (lv_at hl 2 rfl) ?_
  refine lv_aload_n hx hb d_law_578 rfl (lv_at hl 0 rfl) ?_
  refine lv_iload_n hx hb d_law_579 rfl (lv_at hl 3 rfl) ?_
  refine lv_iconst (v := 1) hx hb d_law_580 (by decide) ?_
  refine lv_iadd hx hb d_law_581 ?_
  refine va_sld hx hb hX hbl hbA h.2.2.2.2.2.1 (lw_in hi hL (j := 1) (by decide) rfl) d_law_582 ?_
  refine lv_aload_n hx hb d_law_583 rfl (lv_at hl 0 rfl) ?_
  refine lv_iload_n hx hb d_law_584 rfl (lv_at hl 3 rfl) ?_
  refine lv_iconst (v := 2) hx hb d_law_585 (by decide) ?_
  refine lv_iadd hx hb d_law_586 ?_
  refine va_sld hx hb hX hbl hbA h.2.2.2.2.2.1 (lw_in hi hL (j := 2) (by decide) rfl) d_law_587 ?_
  refine lw_mi (As1 := [.int (xs (nI i + 1).toNatClampNeg), .int (xs (nI i + 2).toNatClampNeg)]) (rest := [.int r]) (I' := I) (R' := R) C h rfl (c_Md_span l n (xs (nI i + 1).toNatClampNeg) (xs (nI i + 2).toNatClampNeg) I R) (by rw [f2]; rfl) (cbW 2 hT cd_Md_span rfl rfl ini_Md ml_law_81 ⟨by decide +kernel, by decide +kernel, by decide +kernel⟩ ⟨Nat.le_of_ble_eq_true rfl, Nat.le_of_ble_eq_true rfl⟩) im_Md_span se_Md_Md_span__Md_span rfl hl.1 rfl (Nat.le_of_ble_eq_true rfl) d_law_588 hc0 (fun H2 locs2 h => ?_)
  refine lv_icmp_eq (tgt := 844) hx hb d_law_591 (by decide) (fun _ => ?_) (fun hc => absurd rfl hc)
  refine W.widen (k := cells + 6) (n := slots + 241) (by omega) (by omega) ?_
  exact kk E F G P N I R H2 locs2 h hR
theorem law_c16 (hn : 300000000 ≤ n) (C : LC p s m args c dC dI cI cZ cW cJ adK adV) (hX : va_X b L xs s s.heap) (hbl : b < s.heap.size) (h : LW s dC dI cI cZ cW cJ adM adC E F G P N I R H locs) (hR : RL E F G P N I R) (hi : i + 5 ≤ L) (hL : L ≤ 320) (hl : lv_has ls 4 [(0, .ref b), (1, .ref (adC 0)), (2, .ref (adM 0)), (3, .int (nI i))]) (hcs : cells + 6 ≤ room_1.cells ∧ slots + 241 ≤ room_1.slots) (kk : ∀ (E1 : PE) (F1 G1 : Nat → Nat → Int32) (P1 : Nat → Nat → Option Nat) (N1 : Nat → Nat) (I1 : Nat → Int32) (R1 : Nat → Nat → Int32) (H1 : Heap) (locs1 : List Loc), LW s dC dI cI cZ cW cJ adM adC E1 F1 G1 P1 N1 I1 R1 H1 locs1 → RL E1 F1 G1 P1 N1 I1 R1 → W p l e room_1 s m args below meth c H1 locs1 (cells + 6) (slots + 241) Q (F0 m 844 ls [])) : W p l e room_1 s m args below meth c H locs cells slots Q (F0 m 596 ls []) := by
  have hx := C.1
  have hb := C.2.1
  have hT := C.2.2.2.2.1
  have hbA : ¬ (fun q : Nat => s.heap.size ≤ q) b := Nat.not_le.mpr hbl
  have hc0 : cells ≤ room_1.cells ∧ slots ≤ room_1.slots := ⟨by omega, by omega⟩
  obtain ⟨r, F1, G1, P1, N1, I1, R1, f1, f2, hR⟩ := st_chance (n := n) (v1 := (xs (nI i + 1).toNatClampNeg)) (v2 := (xs (nI i + 2).toNatClampNeg)) (v3 := (xs (nI i + 3).toNatClampNeg)) (v4 := (xs (nI i + 4).toNatClampNeg)) hn hR
  refine lv_aload_n hx hb d_law_596 rfl (lv_at hl 1 rfl) ?_
  refine lv_aload_n hx hb d_law_597 rfl (lv_at hl 0 rfl) ?_
  refine lv_iload_n hx hb d_law_598 rfl (lv_at hl 3 rfl) ?_
  refine lv_iconst (v := 1) hx hb d_law_599 (by decide) ?_
  refine lv_iadd hx hb d_law_600 ?_
  refine va_sld hx hb hX hbl hbA h.2.2.2.2.2.1 (lw_in hi hL (j := 1) (by decide) rfl) d_law_601 ?_
  refine lv_aload_n hx hb d_law_602 rfl (lv_at hl 0 rfl) ?_
  refine lv_iload_n hx hb d_law_603 rfl (lv_at hl 3 rfl) ?_
  refine lv_iconst (v := 2) hx hb d_law_604 (by decide) ?_
  refine lv_iadd hx hb d_law_605 ?_
  refine va_sld hx hb hX hbl hbA h.2.2.2.2.2.1 (lw_in hi hL (j := 2) (by decide) rfl) d_law_606 ?_
  refine lv_aload_n hx hb d_law_607 rfl (lv_at hl 0 rfl) ?_
  refine lv_iload_n hx hb d_law_608 rfl (lv_at hl 3 rfl) ?_
  refine lv_iconst (v := 3) hx hb d_law_609 (by decide) ?_
  refine lv_iadd hx hb d_law_610 ?_
  refine va_sld hx hb hX hbl hbA h.2.2.2.2.2.1 (lw_in hi hL (j := 3) (by decide) rfl) d_law_611 ?_
  refine lv_aload_n hx hb d_law_612 rfl (lv_at hl 0 rfl) ?_
  refine lv_iload_n hx hb d_law_613 rfl (lv_at hl 3 rfl) ?_
  refine lv_iconst (v := 4) hx hb d_law_614 (by decide) ?_
  refine lv_iadd hx hb d_law_615 ?_
  refine va_sld hx hb hX hbl hbA h.2.2.2.2.2.1 (lw_in hi hL (j := 4) (by decide) rfl) d_law_616 ?_
  refine lw_cl (As1 := [.int (xs (nI i + 1).toNatClampNeg), .int (xs (nI i + 2).toNatClampNeg), .int (xs (nI i + 3).toNatClampNeg), .int (xs (nI i + 4).toNatClampNeg)]) (rest := []) C h rfl (c_LB_chance l n E (xs (nI i + 1).toNatClampNeg) (xs (nI i + 2).toNatClampNeg) (xs (nI i + 3).toNatClampNeg) (xs (nI i + 4).toNatClampNeg) F G P N) f1 (cbW 4 hT cd_LB_chance rfl rfl ini_LB ml_law_82 ⟨by decide +kernel, by decide +kernel, by decide +kernel⟩ ⟨Nat.le_of_ble_eq_true rfl, Nat.le_of_ble_eq_true rfl⟩) im_LB_chance se_LB_LB_chance__LB_chance rfl hl.1 rfl (Nat.le_of_ble_eq_true rfl) d_law_617 hc0 (fun H1 locs1 h => ?_)
  refine lv_aload_n hx hb d_law_620 rfl (lv_at hl 2 rfl) ?_
  refine lv_aload_n hx hb d_law_621 rfl (lv_at hl 0 rfl) ?_
  refine lv_iload_n hx hb d_law_622 rfl (lv_at hl 3 rfl) ?_
  refine lv_iconst (v := 1) hx hb d_law_623 (by decide) ?_
  refine lv_iadd hx hb d_law_624 ?_
  refine va_sld hx hb hX hbl hbA h.2.2.2.2.2.1 (lw_in hi hL (j := 1) (by decide) rfl) d_law_625 ?_
  refine lv_aload_n hx hb d_law_626 rfl (lv_at hl 0 rfl) ?_
  refine lv_iload_n hx hb d_law_627 rfl (lv_at hl 3 rfl) ?_
  refine lv_iconst (v := 2) hx hb d_law_628 (by decide) ?_
  refine lv_iadd hx hb d_law_629 ?_
  refine va_sld hx hb hX hbl hbA h.2.2.2.2.2.1 (lw_in hi hL (j := 2) (by decide) rfl) d_law_630 ?_
  refine lv_aload_n hx hb d_law_631 rfl (lv_at hl 0 rfl) ?_
  refine lv_iload_n hx hb d_law_632 rfl (lv_at hl 3 rfl) ?_
  refine lv_iconst (v := 3) hx hb d_law_633 (by decide) ?_
  refine lv_iadd hx hb d_law_634 ?_
  refine va_sld hx hb hX hbl hbA h.2.2.2.2.2.1 (lw_in hi hL (j := 3) (by decide) rfl) d_law_635 ?_
  refine lv_aload_n hx hb d_law_636 rfl (lv_at hl 0 rfl) ?_
  refine lv_iload_n hx hb d_law_637 rfl (lv_at hl 3 rfl) ?_
  refine lv_iconst (v := 4) hx hb d_law_638 (by decide) ?_
  refine lv_iadd hx hb d_law_639 ?_
  refine va_sld hx hb hX hbl hbA h.2.2.2.2.2.1 (lw_in hi hL (j := 4) (by decide) rfl) d_law_640 ?_
  refine lw_ml (As1 := [.int (xs (nI i + 1).toNatClampNeg), .int (xs (nI i + 2).toNatClampNeg), .int (xs (nI i + 3).toNatClampNeg), .int (xs (nI i + 4).toNatClampNeg)]) (rest := [.long r]) C h rfl (c_Md_chance l n (xs (nI i + 1).toNatClampNeg) (xs (nI i + 2).toNatClampNeg) (xs (nI i + 3).toNatClampNeg) (xs (nI i + 4).toNatClampNeg) I R) f2 (cbW 4 hT cd_Md_chance rfl rfl ini_Md ml_law_86 ⟨by decide +kernel, by decide +kernel, by decide +kernel⟩ ⟨Nat.le_of_ble_eq_true rfl, Nat.le_of_ble_eq_true rfl⟩) im_Md_chance se_Md_Md_chance__Md_chance rfl hl.1 rfl (Nat.le_of_ble_eq_true rfl) d_law_641 hc0 (fun H2 locs2 h => ?_)
  refine W.lcmp hx hb d_law_644 ?_
  refine lv_if_eq (tgt := 844) hx hb d_law_645 (by decide) (fun _ => ?_) (fun hc => absurd (lw_lc r) hc)
  refine W.widen (k := cells + 6) (n := slots + 241) (by omega) (by omega) ?_
  exact kk E F1 G1 P1 N1 I1 R1 H2 locs2 h hR
theorem law_c17 (hn : 300000000 ≤ n) (C : LC p s m args c dC dI cI cZ cW cJ adK adV) (hX : va_X b L xs s s.heap) (hbl : b < s.heap.size) (h : LW s dC dI cI cZ cW cJ adM adC E F G P N I R H locs) (hR : RL E F G P N I R) (hi : i + 5 ≤ L) (hL : L ≤ 320) (hl : lv_has ls 4 [(0, .ref b), (1, .ref (adC 0)), (2, .ref (adM 0)), (3, .int (nI i))]) (hcs : cells + 6 ≤ room_1.cells ∧ slots + 241 ≤ room_1.slots) (kk : ∀ (E1 : PE) (F1 G1 : Nat → Nat → Int32) (P1 : Nat → Nat → Option Nat) (N1 : Nat → Nat) (I1 : Nat → Int32) (R1 : Nat → Nat → Int32) (H1 : Heap) (locs1 : List Loc), LW s dC dI cI cZ cW cJ adM adC E1 F1 G1 P1 N1 I1 R1 H1 locs1 → RL E1 F1 G1 P1 N1 I1 R1 → W p l e room_1 s m args below meth c H1 locs1 (cells + 6) (slots + 241) Q (F0 m 844 ls [])) : W p l e room_1 s m args below meth c H locs cells slots Q (F0 m 650 ls []) := by
  have hx := C.1
  have hb := C.2.1
  have hT := C.2.2.2.2.1
  have hbA : ¬ (fun q : Nat => s.heap.size ≤ q) b := Nat.not_le.mpr hbl
  have hc0 : cells ≤ room_1.cells ∧ slots ≤ room_1.slots := ⟨by omega, by omega⟩
  obtain ⟨r, F1, G1, P1, N1, I1, R1, f1, f2, hR⟩ := st_book (n := n) (v1 := (xs (nI i + 1).toNatClampNeg)) hR
  refine lv_aload_n hx hb d_law_650 rfl (lv_at hl 1 rfl) ?_
  refine lv_aload_n hx hb d_law_651 rfl (lv_at hl 0 rfl) ?_
  refine lv_iload_n hx hb d_law_652 rfl (lv_at hl 3 rfl) ?_
  refine lv_iconst (v := 1) hx hb d_law_653 (by decide) ?_
  refine lv_iadd hx hb d_law_654 ?_
  refine va_sld hx hb hX hbl hbA h.2.2.2.2.2.1 (lw_in hi hL (j := 1) (by decide) rfl) d_law_655 ?_
  refine lw_ci (As1 := [.int (xs (nI i + 1).toNatClampNeg)]) (rest := []) C h rfl (c_LB_book l n E (xs (nI i + 1).toNatClampNeg) F G P N) f1 (cbW 1 hT cd_LB_book rfl rfl ini_LB ml_law_87 ⟨by decide +kernel, by decide +kernel, by decide +kernel⟩ ⟨Nat.le_of_ble_eq_true rfl, Nat.le_of_ble_eq_true rfl⟩) im_LB_book se_LB_LB_book__LB_book rfl hl.1 rfl (Nat.le_of_ble_eq_true rfl) d_law_656 hc0 (fun H1 locs1 h => ?_)
  refine lv_aload_n hx hb d_law_659 rfl (lv_at hl 2 rfl) ?_
  refine lv_aload_n hx hb d_law_660 rfl (lv_at hl 0 rfl) ?_
  refine lv_iload_n hx hb d_law_661 rfl (lv_at hl 3 rfl) ?_
  refine lv_iconst (v := 1) hx hb d_law_662 (by decide) ?_
  refine lv_iadd hx hb d_law_663 ?_
  refine va_sld hx hb hX hbl hbA h.2.2.2.2.2.1 (lw_in hi hL (j := 1) (by decide) rfl) d_law_664 ?_
  refine lw_mi (As1 := [.int (xs (nI i + 1).toNatClampNeg)]) (rest := [.int r]) C h rfl (c_Md_book l n (xs (nI i + 1).toNatClampNeg) I R) f2 (cbW 1 hT cd_Md_book rfl rfl ini_Md ml_law_90 ⟨by decide +kernel, by decide +kernel, by decide +kernel⟩ ⟨Nat.le_of_ble_eq_true rfl, Nat.le_of_ble_eq_true rfl⟩) im_Md_book se_Md_Md_book__Md_book rfl hl.1 rfl (Nat.le_of_ble_eq_true rfl) d_law_665 hc0 (fun H2 locs2 h => ?_)
  refine lv_icmp_eq (tgt := 844) hx hb d_law_668 (by decide) (fun _ => ?_) (fun hc => absurd rfl hc)
  refine W.widen (k := cells + 6) (n := slots + 241) (by omega) (by omega) ?_
  exact kk E F1 G1 P1 N1 I1 R1 H2 locs2 h hR
theorem law_c18 (hn : 300000000 ≤ n) (C : LC p s m args c dC dI cI cZ cW cJ adK adV) (hX : va_X b L xs s s.heap) (hbl : b < s.heap.size) (h : LW s dC dI cI cZ cW cJ adM adC E F G P N I R H locs) (hR : RL E F G P N I R) (hi : i + 5 ≤ L) (hL : L ≤ 320) (hl : lv_has ls 4 [(0, .ref b), (1, .ref (adC 0)), (2, .ref (adM 0)), (3, .int (nI i))]) (hcs : cells + 6 ≤ room_1.cells ∧ slots + 241 ≤ room_1.slots) (kk : ∀ (E1 : PE) (F1 G1 : Nat → Nat → Int32) (P1 : Nat → Nat → Option Nat) (N1 : Nat → Nat) (I1 : Nat → Int32) (R1 : Nat → Nat → Int32) (H1 : Heap) (locs1 : List Loc), LW s dC dI cI cZ cW cJ adM adC E1 F1 G1 P1 N1 I1 R1 H1 locs1 → RL E1 F1 G1 P1 N1 I1 R1 → W p l e room_1 s m args below meth c H1 locs1 (cells + 6) (slots + 241) Q (F0 m 844 ls [])) : W p l e room_1 s m args below meth c H locs cells slots Q (F0 m 673 ls []) := by
  have hx := C.1
  have hb := C.2.1
  have hT := C.2.2.2.2.1
  have hbA : ¬ (fun q : Nat => s.heap.size ≤ q) b := Nat.not_le.mpr hbl
  have hc0 : cells ≤ room_1.cells ∧ slots ≤ room_1.slots := ⟨by omega, by omega⟩
  obtain ⟨r, F1, G1, P1, N1, I1, R1, f1, f2, hR⟩ := st_looked (n := n) (v1 := (xs (nI i + 1).toNatClampNeg)) hn hR
  refine lv_aload_n hx hb d_law_673 rfl (lv_at hl 1 rfl) ?_
  refine lv_aload_n hx hb d_law_674 rfl (lv_at hl 0 rfl) ?_
  refine lv_iload_n hx hb d_law_675 rfl (lv_at hl 3 rfl) ?_
  refine lv_iconst (v := 1) hx hb d_law_676 (by decide) ?_
  refine lv_iadd hx hb d_law_677 ?_
  refine va_sld hx hb hX hbl hbA h.2.2.2.2.2.1 (lw_in hi hL (j := 1) (by decide) rfl) d_law_678 ?_
  refine lw_ci (As1 := [.int (xs (nI i + 1).toNatClampNeg)]) (rest := []) C h rfl (c_LB_looked l n E (xs (nI i + 1).toNatClampNeg) F G P N) f1 (cbW 1 hT cd_LB_looked rfl rfl ini_LB ml_law_91 ⟨by decide +kernel, by decide +kernel, by decide +kernel⟩ ⟨Nat.le_of_ble_eq_true rfl, Nat.le_of_ble_eq_true rfl⟩) im_LB_looked se_LB_LB_looked__LB_looked rfl hl.1 rfl (Nat.le_of_ble_eq_true rfl) d_law_679 hc0 (fun H1 locs1 h => ?_)
  refine lv_aload_n hx hb d_law_682 rfl (lv_at hl 2 rfl) ?_
  refine lv_aload_n hx hb d_law_683 rfl (lv_at hl 0 rfl) ?_
  refine lv_iload_n hx hb d_law_684 rfl (lv_at hl 3 rfl) ?_
  refine lv_iconst (v := 1) hx hb d_law_685 (by decide) ?_
  refine lv_iadd hx hb d_law_686 ?_
  refine va_sld hx hb hX hbl hbA h.2.2.2.2.2.1 (lw_in hi hL (j := 1) (by decide) rfl) d_law_687 ?_
  refine lw_mi (As1 := [.int (xs (nI i + 1).toNatClampNeg)]) (rest := [.int r]) C h rfl (c_Md_looked l n (xs (nI i + 1).toNatClampNeg) I R) f2 (cbW 1 hT cd_Md_looked rfl rfl ini_Md ml_law_94 ⟨by decide +kernel, by decide +kernel, by decide +kernel⟩ ⟨Nat.le_of_ble_eq_true rfl, Nat.le_of_ble_eq_true rfl⟩) im_Md_looked se_Md_Md_looked__Md_looked rfl hl.1 rfl (Nat.le_of_ble_eq_true rfl) d_law_688 hc0 (fun H2 locs2 h => ?_)
  refine lv_icmp_eq (tgt := 844) hx hb d_law_691 (by decide) (fun _ => ?_) (fun hc => absurd rfl hc)
  refine W.widen (k := cells + 6) (n := slots + 241) (by omega) (by omega) ?_
  exact kk E F1 G1 P1 N1 I1 R1 H2 locs2 h hR
theorem law_c19 (hn : 300000000 ≤ n) (C : LC p s m args c dC dI cI cZ cW cJ adK adV) (hX : va_X b L xs s s.heap) (hbl : b < s.heap.size) (h : LW s dC dI cI cZ cW cJ adM adC E F G P N I R H locs) (hR : RL E F G P N I R) (hi : i + 5 ≤ L) (hL : L ≤ 320) (hl : lv_has ls 4 [(0, .ref b), (1, .ref (adC 0)), (2, .ref (adM 0)), (3, .int (nI i))]) (hcs : cells + 6 ≤ room_1.cells ∧ slots + 241 ≤ room_1.slots) (kk : ∀ (E1 : PE) (F1 G1 : Nat → Nat → Int32) (P1 : Nat → Nat → Option Nat) (N1 : Nat → Nat) (I1 : Nat → Int32) (R1 : Nat → Nat → Int32) (H1 : Heap) (locs1 : List Loc), LW s dC dI cI cZ cW cJ adM adC E1 F1 G1 P1 N1 I1 R1 H1 locs1 → RL E1 F1 G1 P1 N1 I1 R1 → W p l e room_1 s m args below meth c H1 locs1 (cells + 6) (slots + 241) Q (F0 m 844 ls [])) : W p l e room_1 s m args below meth c H locs cells slots Q (F0 m 696 ls []) := by
  have hx := C.1
  have hb := C.2.1
  have hT := C.2.2.2.2.1
  have hbA : ¬ (fun q : Nat => s.heap.size ≤ q) b := Nat.not_le.mpr hbl
  have hc0 : cells ≤ room_1.cells ∧ slots ≤ room_1.slots := ⟨by omega, by omega⟩
  obtain ⟨r, F1, G1, P1, N1, I1, R1, f1, f2, hR⟩ := st_act (n := n) (v1 := (xs (nI i + 1).toNatClampNeg)) (v2 := (xs (nI i + 2).toNatClampNeg)) (v3 := (xs (nI i + 3).toNatClampNeg)) hR
  refine lv_aload_n hx hb d_law_696 rfl (lv_at hl 1 rfl) ?_
  refine lv_aload_n hx hb d_law_697 rfl (lv_at hl 0 rfl) ?_
  refine lv_iload_n hx hb d_law_698 rfl (lv_at hl 3 rfl) ?_
  refine lv_iconst (v := 1) hx hb d_law_699 (by decide) ?_
  refine lv_iadd hx hb d_law_700 ?_
  refine va_sld hx hb hX hbl hbA h.2.2.2.2.2.1 (lw_in hi hL (j := 1) (by decide) rfl) d_law_701 ?_
  refine lv_aload_n hx hb d_law_702 rfl (lv_at hl 0 rfl) ?_
  refine lv_iload_n hx hb d_law_703 rfl (lv_at hl 3 rfl) ?_
  refine lv_iconst (v := 2) hx hb d_law_704 (by decide) ?_
  refine lv_iadd hx hb d_law_705 ?_
  refine va_sld hx hb hX hbl hbA h.2.2.2.2.2.1 (lw_in hi hL (j := 2) (by decide) rfl) d_law_706 ?_
  refine lv_aload_n hx hb d_law_707 rfl (lv_at hl 0 rfl) ?_
  refine lv_iload_n hx hb d_law_708 rfl (lv_at hl 3 rfl) ?_
  refine lv_iconst (v := 3) hx hb d_law_709 (by decide) ?_
  refine lv_iadd hx hb d_law_710 ?_
  refine va_sld hx hb hX hbl hbA h.2.2.2.2.2.1 (lw_in hi hL (j := 3) (by decide) rfl) d_law_711 ?_
  refine lw_ci (As1 := [.int (xs (nI i + 1).toNatClampNeg), .int (xs (nI i + 2).toNatClampNeg), .int (xs (nI i + 3).toNatClampNeg)]) (rest := []) C h rfl (c_LB_act l n E (xs (nI i + 1).toNatClampNeg) (xs (nI i + 2).toNatClampNeg) (xs (nI i + 3).toNatClampNeg) F G P N) f1 (cbW 3 hT cd_LB_act rfl rfl ini_LB ml_law_95 ⟨by decide +kernel, by decide +kernel, by decide +kernel⟩ ⟨Nat.le_of_ble_eq_true rfl, Nat.le_of_ble_eq_true rfl⟩) im_LB_act se_LB_LB_act__LB_act rfl hl.1 rfl (Nat.le_of_ble_eq_true rfl) d_law_712 hc0 (fun H1 locs1 h => ?_)
  refine lv_aload_n hx hb d_law_715 rfl (lv_at hl 2 rfl) ?_
  refine lv_aload_n hx hb d_law_716 rfl (lv_at hl 0 rfl) ?_
  refine lv_iload_n hx hb d_law_717 rfl (lv_at hl 3 rfl) ?_
  refine lv_iconst (v := 1) hx hb d_law_718 (by decide) ?_
  refine lv_iadd hx hb d_law_719 ?_
  refine va_sld hx hb hX hbl hbA h.2.2.2.2.2.1 (lw_in hi hL (j := 1) (by decide) rfl) d_law_720 ?_
  refine lv_aload_n hx hb d_law_721 rfl (lv_at hl 0 rfl) ?_
  refine lv_iload_n hx hb d_law_722 rfl (lv_at hl 3 rfl) ?_
  refine lv_iconst (v := 2) hx hb d_law_723 (by decide) ?_
  refine lv_iadd hx hb d_law_724 ?_
  refine va_sld hx hb hX hbl hbA h.2.2.2.2.2.1 (lw_in hi hL (j := 2) (by decide) rfl) d_law_725 ?_
  refine lv_aload_n hx hb d_law_726 rfl (lv_at hl 0 rfl) ?_
  refine lv_iload_n hx hb d_law_727 rfl (lv_at hl 3 rfl) ?_
  refine lv_iconst (v := 3) hx hb d_law_728 (by decide) ?_
  refine lv_iadd hx hb d_law_729 ?_
  refine va_sld hx hb hX hbl hbA h.2.2.2.2.2.1 (lw_in hi hL (j := 3) (by decide) rfl) d_law_730 ?_
  refine lw_mi (As1 := [.int (xs (nI i + 1).toNatClampNeg), .int (xs (nI i + 2).toNatClampNeg), .int (xs (nI i + 3).toNatClampNeg)]) (rest := [.int r]) C h rfl (c_Md_act l n (xs (nI i + 1).toNatClampNeg) (xs (nI i + 2).toNatClampNeg) (xs (nI i + 3).toNatClampNeg) I R) f2 (cbW 3 hT cd_Md_act rfl rfl ini_Md ml_law_98 ⟨by decide +kernel, by decide +kernel, by decide +kernel⟩ ⟨Nat.le_of_ble_eq_true rfl, Nat.le_of_ble_eq_true rfl⟩) im_Md_act se_Md_Md_act__Md_act rfl hl.1 rfl (Nat.le_of_ble_eq_true rfl) d_law_731 hc0 (fun H2 locs2 h => ?_)
  refine lv_icmp_eq (tgt := 844) hx hb d_law_734 (by decide) (fun _ => ?_) (fun hc => absurd rfl hc)
  refine W.widen (k := cells + 6) (n := slots + 241) (by omega) (by omega) ?_
  exact kk E F1 G1 P1 N1 I1 R1 H2 locs2 h hR
theorem law_c20 (hn : 300000000 ≤ n) (C : LC p s m args c dC dI cI cZ cW cJ adK adV) (hX : va_X b L xs s s.heap) (hbl : b < s.heap.size) (h : LW s dC dI cI cZ cW cJ adM adC E F G P N I R H locs) (hR : RL E F G P N I R) (hi : i + 5 ≤ L) (hL : L ≤ 320) (hl : lv_has ls 4 [(0, .ref b), (1, .ref (adC 0)), (2, .ref (adM 0)), (3, .int (nI i))]) (hcs : cells + 6 ≤ room_1.cells ∧ slots + 241 ≤ room_1.slots) (kk : ∀ (E1 : PE) (F1 G1 : Nat → Nat → Int32) (P1 : Nat → Nat → Option Nat) (N1 : Nat → Nat) (I1 : Nat → Int32) (R1 : Nat → Nat → Int32) (H1 : Heap) (locs1 : List Loc), LW s dC dI cI cZ cW cJ adM adC E1 F1 G1 P1 N1 I1 R1 H1 locs1 → RL E1 F1 G1 P1 N1 I1 R1 → W p l e room_1 s m args below meth c H1 locs1 (cells + 6) (slots + 241) Q (F0 m 844 ls [])) : W p l e room_1 s m args below meth c H locs cells slots Q (F0 m 739 ls []) := by
  have hx := C.1
  have hb := C.2.1
  have hT := C.2.2.2.2.1
  have hbA : ¬ (fun q : Nat => s.heap.size ≤ q) b := Nat.not_le.mpr hbl
  have hc0 : cells ≤ room_1.cells ∧ slots ≤ room_1.slots := ⟨by omega, by omega⟩
  obtain ⟨r, f1, f2⟩ := st_trace (n := n) (v := (xs (nI i + 1).toNatClampNeg)) hR
  refine lv_aload_n hx hb d_law_739 rfl (lv_at hl 1 rfl) ?_
  refine lv_aload_n hx hb d_law_740 rfl (lv_at hl 0 rfl) ?_
  refine lv_iload_n hx hb d_law_741 rfl (lv_at hl 3 rfl) ?_
  refine lv_iconst (v := 1) hx hb d_law_742 (by decide) ?_
  refine lv_iadd hx hb d_law_743 ?_
  refine va_sld hx hb hX hbl hbA h.2.2.2.2.2.1 (lw_in hi hL (j := 1) (by decide) rfl) d_law_744 ?_
  refine lw_ri (As1 := [.int (xs (nI i + 1).toNatClampNeg)]) (rest := []) C h (c_LB_trace l n E F G P N dC dI adC cI cZ cW cJ (xs (nI i + 1).toNatClampNeg)) f1 (cbW 1 hT cd_LB_trace rfl rfl ini_LB ml_law_99 ⟨by decide +kernel, by decide +kernel, by decide +kernel⟩ ⟨Nat.le_of_ble_eq_true rfl, Nat.le_of_ble_eq_true rfl⟩) im_LB_trace se_LB_LB_trace__LB_trace rfl hl.1 rfl (Nat.le_of_ble_eq_true rfl) d_law_745 hc0 ?_
  refine lv_aload_n hx hb d_law_748 rfl (lv_at hl 2 rfl) ?_
  refine lv_aload_n hx hb d_law_749 rfl (lv_at hl 0 rfl) ?_
  refine lv_iload_n hx hb d_law_750 rfl (lv_at hl 3 rfl) ?_
  refine lv_iconst (v := 1) hx hb d_law_751 (by decide) ?_
  refine lv_iadd hx hb d_law_752 ?_
  refine va_sld hx hb hX hbl hbA h.2.2.2.2.2.1 (lw_in hi hL (j := 1) (by decide) rfl) d_law_753 ?_
  refine lw_mi (As1 := [.int (xs (nI i + 1).toNatClampNeg)]) (rest := [.int r]) (I' := I) (R' := R) C h rfl (c_Md_trace l n (xs (nI i + 1).toNatClampNeg) I R) (by rw [f2]; rfl) (cbW 1 hT cd_Md_trace rfl rfl ini_Md ml_law_102 ⟨by decide +kernel, by decide +kernel, by decide +kernel⟩ ⟨Nat.le_of_ble_eq_true rfl, Nat.le_of_ble_eq_true rfl⟩) im_Md_trace se_Md_Md_trace__Md_trace rfl hl.1 rfl (Nat.le_of_ble_eq_true rfl) d_law_754 hc0 (fun H2 locs2 h => ?_)
  refine lv_icmp_eq (tgt := 844) hx hb d_law_757 (by decide) (fun _ => ?_) (fun hc => absurd rfl hc)
  refine W.widen (k := cells + 6) (n := slots + 241) (by omega) (by omega) ?_
  exact kk E F G P N I R H2 locs2 h hR
theorem law_c21 (hn : 300000000 ≤ n) (C : LC p s m args c dC dI cI cZ cW cJ adK adV) (hX : va_X b L xs s s.heap) (hbl : b < s.heap.size) (h : LW s dC dI cI cZ cW cJ adM adC E F G P N I R H locs) (hR : RL E F G P N I R) (hi : i + 5 ≤ L) (hL : L ≤ 320) (hl : lv_has ls 4 [(0, .ref b), (1, .ref (adC 0)), (2, .ref (adM 0)), (3, .int (nI i))]) (hcs : cells + 6 ≤ room_1.cells ∧ slots + 241 ≤ room_1.slots) (kk : ∀ (E1 : PE) (F1 G1 : Nat → Nat → Int32) (P1 : Nat → Nat → Option Nat) (N1 : Nat → Nat) (I1 : Nat → Int32) (R1 : Nat → Nat → Int32) (H1 : Heap) (locs1 : List Loc), LW s dC dI cI cZ cW cJ adM adC E1 F1 G1 P1 N1 I1 R1 H1 locs1 → RL E1 F1 G1 P1 N1 I1 R1 → W p l e room_1 s m args below meth c H1 locs1 (cells + 6) (slots + 241) Q (F0 m 844 ls [])) : W p l e room_1 s m args below meth c H locs cells slots Q (F0 m 762 ls []) := by
  have hx := C.1
  have hb := C.2.1
  have hT := C.2.2.2.2.1
  have hbA : ¬ (fun q : Nat => s.heap.size ≤ q) b := Nat.not_le.mpr hbl
  have hc0 : cells ≤ room_1.cells ∧ slots ≤ room_1.slots := ⟨by omega, by omega⟩
  obtain ⟨r, f1, f2⟩ := st_as (n := n) (v1 := (xs (nI i + 1).toNatClampNeg)) (v2 := (xs (nI i + 2).toNatClampNeg)) hR
  refine lv_aload_n hx hb d_law_762 rfl (lv_at hl 1 rfl) ?_
  refine lv_aload_n hx hb d_law_763 rfl (lv_at hl 0 rfl) ?_
  refine lv_iload_n hx hb d_law_764 rfl (lv_at hl 3 rfl) ?_
  refine lv_iconst (v := 1) hx hb d_law_765 (by decide) ?_
  refine lv_iadd hx hb d_law_766 ?_
  refine va_sld hx hb hX hbl hbA h.2.2.2.2.2.1 (lw_in hi hL (j := 1) (by decide) rfl) d_law_767 ?_
  refine lv_aload_n hx hb d_law_768 rfl (lv_at hl 0 rfl) ?_
  refine lv_iload_n hx hb d_law_769 rfl (lv_at hl 3 rfl) ?_
  refine lv_iconst (v := 2) hx hb d_law_770 (by decide) ?_
  refine lv_iadd hx hb d_law_771 ?_
  refine va_sld hx hb hX hbl hbA h.2.2.2.2.2.1 (lw_in hi hL (j := 2) (by decide) rfl) d_law_772 ?_
  refine lw_ri (As1 := [.int (xs (nI i + 1).toNatClampNeg), .int (xs (nI i + 2).toNatClampNeg)]) (rest := []) C h (c_LB_as l n E F G P N dC dI adC cI cZ cW cJ (xs (nI i + 1).toNatClampNeg) (xs (nI i + 2).toNatClampNeg)) f1 (cbW 2 hT cd_LB_as rfl rfl ini_LB ml_law_103 ⟨by decide +kernel, by decide +kernel, by decide +kernel⟩ ⟨Nat.le_of_ble_eq_true rfl, Nat.le_of_ble_eq_true rfl⟩) im_LB_as se_LB_LB_as__LB_as rfl hl.1 rfl (Nat.le_of_ble_eq_true rfl) d_law_773 hc0 ?_
  refine lv_aload_n hx hb d_law_776 rfl (lv_at hl 2 rfl) ?_
  refine lv_aload_n hx hb d_law_777 rfl (lv_at hl 0 rfl) ?_
  refine lv_iload_n hx hb d_law_778 rfl (lv_at hl 3 rfl) ?_
  refine lv_iconst (v := 1) hx hb d_law_779 (by decide) ?_
  refine lv_iadd hx hb d_law_780 ?_
  refine va_sld hx hb hX hbl hbA h.2.2.2.2.2.1 (lw_in hi hL (j := 1) (by decide) rfl) d_law_781 ?_
  refine lv_aload_n hx hb d_law_782 rfl (lv_at hl 0 rfl) ?_
  refine lv_iload_n hx hb d_law_783 rfl (lv_at hl 3 rfl) ?_
  refine lv_iconst (v := 2) hx hb d_law_784 (by decide) ?_
  refine lv_iadd hx hb d_law_785 ?_
  refine va_sld hx hb hX hbl hbA h.2.2.2.2.2.1 (lw_in hi hL (j := 2) (by decide) rfl) d_law_786 ?_
  refine lw_mi (As1 := [.int (xs (nI i + 1).toNatClampNeg), .int (xs (nI i + 2).toNatClampNeg)]) (rest := [.int r]) (I' := I) (R' := R) C h rfl (c_Md_as l n (xs (nI i + 1).toNatClampNeg) (xs (nI i + 2).toNatClampNeg) I R) (by rw [f2]; rfl) (cbW 2 hT cd_Md_as rfl rfl ini_Md ml_law_106 ⟨by decide +kernel, by decide +kernel, by decide +kernel⟩ ⟨Nat.le_of_ble_eq_true rfl, Nat.le_of_ble_eq_true rfl⟩) im_Md_as se_Md_Md_as__Md_as rfl hl.1 rfl (Nat.le_of_ble_eq_true rfl) d_law_787 hc0 (fun H2 locs2 h => ?_)
  refine lv_icmp_eq (tgt := 844) hx hb d_law_790 (by decide) (fun _ => ?_) (fun hc => absurd rfl hc)
  refine W.widen (k := cells + 6) (n := slots + 241) (by omega) (by omega) ?_
  exact kk E F G P N I R H2 locs2 h hR
theorem law_c22 (hn : 300000000 ≤ n) (C : LC p s m args c dC dI cI cZ cW cJ adK adV) (hX : va_X b L xs s s.heap) (hbl : b < s.heap.size) (h : LW s dC dI cI cZ cW cJ adM adC E F G P N I R H locs) (hR : RL E F G P N I R) (hi : i + 5 ≤ L) (hL : L ≤ 320) (hl : lv_has ls 4 [(0, .ref b), (1, .ref (adC 0)), (2, .ref (adM 0)), (3, .int (nI i))]) (hcs : cells + 6 ≤ room_1.cells ∧ slots + 241 ≤ room_1.slots) (kk : ∀ (E1 : PE) (F1 G1 : Nat → Nat → Int32) (P1 : Nat → Nat → Option Nat) (N1 : Nat → Nat) (I1 : Nat → Int32) (R1 : Nat → Nat → Int32) (H1 : Heap) (locs1 : List Loc), LW s dC dI cI cZ cW cJ adM adC E1 F1 G1 P1 N1 I1 R1 H1 locs1 → RL E1 F1 G1 P1 N1 I1 R1 → W p l e room_1 s m args below meth c H1 locs1 (cells + 6) (slots + 241) Q (F0 m 844 ls [])) : W p l e room_1 s m args below meth c H locs cells slots Q (F0 m 795 ls []) := by
  have hx := C.1
  have hb := C.2.1
  have hT := C.2.2.2.2.1
  have hbA : ¬ (fun q : Nat => s.heap.size ≤ q) b := Nat.not_le.mpr hbl
  have hc0 : cells ≤ room_1.cells ∧ slots ≤ room_1.slots := ⟨by omega, by omega⟩
  obtain ⟨r, F1, G1, P1, N1, I1, R1, f1, f2, hR⟩ := st_image (n := n) hn hR
  refine lv_aload_n hx hb d_law_795 rfl (lv_at hl 1 rfl) ?_
  refine lw_ci (As1 := []) (rest := []) C h rfl (c_LB_image l n E F G P N) f1 (cbW 0 hT cd_LB_image rfl rfl ini_LB ml_law_107 ⟨by decide +kernel, by decide +kernel, by decide +kernel⟩ ⟨Nat.le_of_ble_eq_true rfl, Nat.le_of_ble_eq_true rfl⟩) im_LB_image se_LB_LB_image__LB_image rfl hl.1 rfl (Nat.le_of_ble_eq_true rfl) d_law_796 hc0 (fun H1 locs1 h => ?_)
  refine lv_aload_n hx hb d_law_799 rfl (lv_at hl 2 rfl) ?_
  refine lw_mi (As1 := []) (rest := [.int r]) C h rfl (c_Md_image l n I R) f2 (cbW 0 hT cd_Md_image rfl rfl ini_Md ml_law_110 ⟨by decide +kernel, by decide +kernel, by decide +kernel⟩ ⟨Nat.le_of_ble_eq_true rfl, Nat.le_of_ble_eq_true rfl⟩) im_Md_image se_Md_Md_image__Md_image rfl hl.1 rfl (Nat.le_of_ble_eq_true rfl) d_law_800 hc0 (fun H2 locs2 h => ?_)
  refine lv_icmp_eq (tgt := 844) hx hb d_law_803 (by decide) (fun _ => ?_) (fun hc => absurd rfl hc)
  refine W.widen (k := cells + 6) (n := slots + 241) (by omega) (by omega) ?_
  exact kk E F1 G1 P1 N1 I1 R1 H2 locs2 h hR
theorem law_c23 (hn : 300000000 ≤ n) (C : LC p s m args c dC dI cI cZ cW cJ adK adV) (hX : va_X b L xs s s.heap) (hbl : b < s.heap.size) (h : LW s dC dI cI cZ cW cJ adM adC E F G P N I R H locs) (hR : RL E F G P N I R) (hi : i + 5 ≤ L) (hL : L ≤ 320) (hl : lv_has ls 4 [(0, .ref b), (1, .ref (adC 0)), (2, .ref (adM 0)), (3, .int (nI i))]) (hcs : cells + 6 ≤ room_1.cells ∧ slots + 241 ≤ room_1.slots) (kk : ∀ (E1 : PE) (F1 G1 : Nat → Nat → Int32) (P1 : Nat → Nat → Option Nat) (N1 : Nat → Nat) (I1 : Nat → Int32) (R1 : Nat → Nat → Int32) (H1 : Heap) (locs1 : List Loc), LW s dC dI cI cZ cW cJ adM adC E1 F1 G1 P1 N1 I1 R1 H1 locs1 → RL E1 F1 G1 P1 N1 I1 R1 → W p l e room_1 s m args below meth c H1 locs1 (cells + 6) (slots + 241) Q (F0 m 844 ls [])) : W p l e room_1 s m args below meth c H locs cells slots Q (F0 m 808 ls []) := by
  have hx := C.1
  have hb := C.2.1
  have hT := C.2.2.2.2.1
  have hbA : ¬ (fun q : Nat => s.heap.size ≤ q) b := Nat.not_le.mpr hbl
  have hc0 : cells ≤ room_1.cells ∧ slots ≤ room_1.slots := ⟨by omega, by omega⟩
  obtain ⟨r, F1, G1, P1, N1, I1, R1, f1, f2, hR⟩ := st_undo (n := n) hn hR
  refine lv_aload_n hx hb d_law_808 rfl (lv_at hl 1 rfl) ?_
  refine lw_ci (As1 := []) (rest := []) C h rfl (c_LB_undo l n E F G P N) f1 (cbW 0 hT cd_LB_undo rfl rfl ini_LB ml_law_111 ⟨by decide +kernel, by decide +kernel, by decide +kernel⟩ ⟨Nat.le_of_ble_eq_true rfl, Nat.le_of_ble_eq_true rfl⟩) im_LB_undo se_LB_LB_undo__LB_undo rfl hl.1 rfl (Nat.le_of_ble_eq_true rfl) d_law_809 hc0 (fun H1 locs1 h => ?_)
  refine lv_aload_n hx hb d_law_812 rfl (lv_at hl 2 rfl) ?_
  refine lw_mi (As1 := []) (rest := [.int r]) C h rfl (c_Md_undo l n I R) f2 (cbW 0 hT cd_Md_undo rfl rfl ini_Md ml_law_114 ⟨by decide +kernel, by decide +kernel, by decide +kernel⟩ ⟨Nat.le_of_ble_eq_true rfl, Nat.le_of_ble_eq_true rfl⟩) im_Md_undo se_Md_Md_undo__Md_undo rfl hl.1 rfl (Nat.le_of_ble_eq_true rfl) d_law_813 hc0 (fun H2 locs2 h => ?_)
  refine lv_icmp_eq (tgt := 844) hx hb d_law_816 (by decide) (fun _ => ?_) (fun hc => absurd rfl hc)
  refine W.widen (k := cells + 6) (n := slots + 241) (by omega) (by omega) ?_
  exact kk E F1 G1 P1 N1 I1 R1 H2 locs2 h hR
theorem law_c24 (hn : 300000000 ≤ n) (C : LC p s m args c dC dI cI cZ cW cJ adK adV) (hX : va_X b L xs s s.heap) (hbl : b < s.heap.size) (h : LW s dC dI cI cZ cW cJ adM adC E F G P N I R H locs) (hR : RL E F G P N I R) (hi : i + 5 ≤ L) (hL : L ≤ 320) (hl : lv_has ls 4 [(0, .ref b), (1, .ref (adC 0)), (2, .ref (adM 0)), (3, .int (nI i))]) (hcs : cells + 6 ≤ room_1.cells ∧ slots + 241 ≤ room_1.slots) (kk : ∀ (E1 : PE) (F1 G1 : Nat → Nat → Int32) (P1 : Nat → Nat → Option Nat) (N1 : Nat → Nat) (I1 : Nat → Int32) (R1 : Nat → Nat → Int32) (H1 : Heap) (locs1 : List Loc), LW s dC dI cI cZ cW cJ adM adC E1 F1 G1 P1 N1 I1 R1 H1 locs1 → RL E1 F1 G1 P1 N1 I1 R1 → W p l e room_1 s m args below meth c H1 locs1 (cells + 6) (slots + 241) Q (F0 m 844 ls [])) : W p l e room_1 s m args below meth c H locs cells slots Q (F0 m 821 ls []) := by
  have hx := C.1
  have hb := C.2.1
  have hT := C.2.2.2.2.1
  have hbA : ¬ (fun q : Nat => s.heap.size ≤ q) b := Nat.not_le.mpr hbl
  have hc0 : cells ≤ room_1.cells ∧ slots ≤ room_1.slots := ⟨by omega, by omega⟩
  obtain ⟨r, f1, f2⟩ := st_count (n := n) (v := (xs (nI i + 1).toNatClampNeg)) hR
  refine lv_aload_n hx hb d_law_821 rfl (lv_at hl 1 rfl) ?_
  refine lv_aload_n hx hb d_law_822 rfl (lv_at hl 0 rfl) ?_
  refine lv_iload_n hx hb d_law_823 rfl (lv_at hl 3 rfl) ?_
  refine lv_iconst (v := 1) hx hb d_law_824 (by decide) ?_
  refine lv_iadd hx hb d_law_825 ?_
  refine va_sld hx hb hX hbl hbA h.2.2.2.2.2.1 (lw_in hi hL (j := 1) (by decide) rfl) d_law_826 ?_
  refine lw_ri (As1 := [.int (xs (nI i + 1).toNatClampNeg)]) (rest := []) C h (c_LB_count l n E F G P N dC dI adC cI cZ cW cJ (xs (nI i + 1).toNatClampNeg)) f1 (cbW 1 hT cd_LB_count rfl rfl ini_LB ml_law_115 ⟨by decide +kernel, by decide +kernel, by decide +kernel⟩ ⟨Nat.le_of_ble_eq_true rfl, Nat.le_of_ble_eq_true rfl⟩) im_LB_count se_LB_LB_count__LB_count rfl hl.1 rfl (Nat.le_of_ble_eq_true rfl) d_law_827 hc0 ?_
  refine lv_aload_n hx hb d_law_830 rfl (lv_at hl 2 rfl) ?_
  refine lv_aload_n hx hb d_law_831 rfl (lv_at hl 0 rfl) ?_
  refine lv_iload_n hx hb d_law_832 rfl (lv_at hl 3 rfl) ?_
  refine lv_iconst (v := 1) hx hb d_law_833 (by decide) ?_
  refine lv_iadd hx hb d_law_834 ?_
  refine va_sld hx hb hX hbl hbA h.2.2.2.2.2.1 (lw_in hi hL (j := 1) (by decide) rfl) d_law_835 ?_
  refine lw_mi (As1 := [.int (xs (nI i + 1).toNatClampNeg)]) (rest := [.int r]) (I' := I) (R' := R) C h rfl (c_Md_count l n (xs (nI i + 1).toNatClampNeg) I R) (by rw [f2]; rfl) (cbW 1 hT cd_Md_count rfl rfl ini_Md ml_law_118 ⟨by decide +kernel, by decide +kernel, by decide +kernel⟩ ⟨Nat.le_of_ble_eq_true rfl, Nat.le_of_ble_eq_true rfl⟩) im_Md_count se_Md_Md_count__Md_count rfl hl.1 rfl (Nat.le_of_ble_eq_true rfl) d_law_836 hc0 (fun H2 locs2 h => ?_)
  refine lv_icmp_eq (tgt := 844) hx hb d_law_839 (by decide) (fun _ => ?_) (fun hc => absurd rfl hc)
  refine W.widen (k := cells + 6) (n := slots + 241) (by omega) (by omega) ?_
  exact kk E F G P N I R H2 locs2 h hR
end LWc
