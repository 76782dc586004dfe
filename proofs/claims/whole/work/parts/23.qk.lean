theorem hd_Ni_holds : y_Ni_holds.cls ≠ "java/lang/invoke/MethodHandle" ∧ y_Ni_holds.cls ≠ "java/lang/invoke/VarHandle" ∧ (parseMethodDescriptor y_Ni_holds.desc).map (fun d => d.parameters.length) = some 2 := by decide +kernel
theorem d_Ni_holds_0 : decode b_Ni_holds 0 = .ok (.iload_n 1, 1) := by decide +kernel
theorem d_Ni_holds_1 : decode b_Ni_holds 1 = .ok (.ifCond .le 14, 3) := by decide +kernel
theorem d_Ni_holds_4 : decode b_Ni_holds 4 = .ok (.aload_n 0, 1) := by decide +kernel
theorem d_Ni_holds_5 : decode b_Ni_holds 5 = .ok (.getfield 26, 3) := by decide +kernel
theorem d_Ni_holds_8 : decode b_Ni_holds 8 = .ok (.iload_n 1, 1) := by decide +kernel
theorem d_Ni_holds_9 : decode b_Ni_holds 9 = .ok (.iconst 1, 1) := by decide +kernel
theorem d_Ni_holds_10 : decode b_Ni_holds 10 = .ok (.isub, 1) := by decide +kernel
theorem d_Ni_holds_11 : decode b_Ni_holds 11 = .ok (.iaload, 1) := by decide +kernel
theorem d_Ni_holds_12 : decode b_Ni_holds 12 = .ok (.goto 4, 3) := by decide +kernel
theorem d_Ni_holds_15 : decode b_Ni_holds 15 = .ok (.iconst 0, 1) := by decide +kernel
theorem d_Ni_holds_16 : decode b_Ni_holds 16 = .ok (.istore_n 3, 1) := by decide +kernel
theorem d_Ni_holds_17 : decode b_Ni_holds 17 = .ok (.iconst 0, 1) := by decide +kernel
theorem d_Ni_holds_18 : decode b_Ni_holds 18 = .ok (.istore 4, 2) := by decide +kernel
theorem d_Ni_holds_20 : decode b_Ni_holds 20 = .ok (.iload_n 3, 1) := by decide +kernel
theorem d_Ni_holds_21 : decode b_Ni_holds 21 = .ok (.istore 5, 2) := by decide +kernel
theorem d_Ni_holds_23 : decode b_Ni_holds 23 = .ok (.iload 5, 2) := by decide +kernel
theorem d_Ni_holds_25 : decode b_Ni_holds 25 = .ok (.aload_n 0, 1) := by decide +kernel
theorem d_Ni_holds_26 : decode b_Ni_holds 26 = .ok (.getfield 26, 3) := by decide +kernel
theorem d_Ni_holds_29 : decode b_Ni_holds 29 = .ok (.iload_n 1, 1) := by decide +kernel
theorem d_Ni_holds_30 : decode b_Ni_holds 30 = .ok (.iaload, 1) := by decide +kernel
theorem d_Ni_holds_31 : decode b_Ni_holds 31 = .ok (.if_icmp .ge 196, 3) := by decide +kernel
theorem d_Ni_holds_34 : decode b_Ni_holds 34 = .ok (.aload_n 0, 1) := by decide +kernel
theorem d_Ni_holds_35 : decode b_Ni_holds 35 = .ok (.getfield 47, 3) := by decide +kernel
theorem d_Ni_holds_38 : decode b_Ni_holds 38 = .ok (.iload 5, 2) := by decide +kernel
theorem d_Ni_holds_40 : decode b_Ni_holds 40 = .ok (.iaload, 1) := by decide +kernel
theorem d_Ni_holds_41 : decode b_Ni_holds 41 = .ok (.istore 6, 2) := by decide +kernel
theorem d_Ni_holds_43 : decode b_Ni_holds 43 = .ok (.iload 4, 2) := by decide +kernel
theorem d_Ni_holds_45 : decode b_Ni_holds 45 = .ok (.iconst 1, 1) := by decide +kernel
theorem d_Ni_holds_46 : decode b_Ni_holds 46 = .ok (.ishr, 1) := by decide +kernel
theorem d_Ni_holds_47 : decode b_Ni_holds 47 = .ok (.istore 7, 2) := by decide +kernel
theorem d_Ni_holds_49 : decode b_Ni_holds 49 = .ok (.iload 6, 2) := by decide +kernel
theorem d_Ni_holds_51 : decode b_Ni_holds 51 = .ok (.iconst (-1), 1) := by decide +kernel
theorem d_Ni_holds_52 : decode b_Ni_holds 52 = .ok (.if_icmp .ne 12, 3) := by decide +kernel
theorem d_Ni_holds_55 : decode b_Ni_holds 55 = .ok (.iload 4, 2) := by decide +kernel
theorem d_Ni_holds_57 : decode b_Ni_holds 57 = .ok (.iconst 1, 1) := by decide +kernel
theorem d_Ni_holds_58 : decode b_Ni_holds 58 = .ok (.ixor, 1) := by decide +kernel
theorem d_Ni_holds_59 : decode b_Ni_holds 59 = .ok (.istore 4, 2) := by decide +kernel
theorem d_Ni_holds_61 : decode b_Ni_holds 61 = .ok (.goto 160, 3) := by decide +kernel
theorem d_Ni_holds_64 : decode b_Ni_holds 64 = .ok (.iload 6, 2) := by decide +kernel
theorem d_Ni_holds_66 : decode b_Ni_holds 66 = .ok (.bipush (-2), 2) := by decide +kernel
theorem d_Ni_holds_68 : decode b_Ni_holds 68 = .ok (.if_icmp .ne 16, 3) := by decide +kernel
theorem d_Ni_holds_71 : decode b_Ni_holds 71 = .ok (.iload 7, 2) := by decide +kernel
theorem d_Ni_holds_73 : decode b_Ni_holds 73 = .ok (.iload 4, 2) := by decide +kernel
theorem d_Ni_holds_75 : decode b_Ni_holds 75 = .ok (.bipush (-2), 2) := by decide +kernel
theorem d_Ni_holds_77 : decode b_Ni_holds 77 = .ok (.ior, 1) := by decide +kernel
theorem d_Ni_holds_78 : decode b_Ni_holds 78 = .ok (.iand, 1) := by decide +kernel
theorem d_Ni_holds_79 : decode b_Ni_holds 79 = .ok (.istore 4, 2) := by decide +kernel
theorem d_Ni_holds_81 : decode b_Ni_holds 81 = .ok (.goto 140, 3) := by decide +kernel
theorem d_Ni_holds_84 : decode b_Ni_holds 84 = .ok (.iload 6, 2) := by decide +kernel
theorem d_Ni_holds_86 : decode b_Ni_holds 86 = .ok (.bipush (-3), 2) := by decide +kernel
theorem d_Ni_holds_88 : decode b_Ni_holds 88 = .ok (.if_icmp .ne 15, 3) := by decide +kernel
theorem d_Ni_holds_91 : decode b_Ni_holds 91 = .ok (.iload 7, 2) := by decide +kernel
theorem d_Ni_holds_93 : decode b_Ni_holds 93 = .ok (.iload 4, 2) := by decide +kernel
theorem d_Ni_holds_95 : decode b_Ni_holds 95 = .ok (.iconst 1, 1) := by decide +kernel
theorem d_Ni_holds_96 : decode b_Ni_holds 96 = .ok (.iand, 1) := by decide +kernel
theorem d_Ni_holds_97 : decode b_Ni_holds 97 = .ok (.ior, 1) := by decide +kernel
theorem d_Ni_holds_98 : decode b_Ni_holds 98 = .ok (.istore 4, 2) := by decide +kernel
theorem d_Ni_holds_100 : decode b_Ni_holds 100 = .ok (.goto 121, 3) := by decide +kernel
theorem d_Ni_holds_103 : decode b_Ni_holds 103 = .ok (.iload 6, 2) := by decide +kernel
theorem d_Ni_holds_105 : decode b_Ni_holds 105 = .ok (.sipush 300, 3) := by decide +kernel
theorem d_Ni_holds_108 : decode b_Ni_holds 108 = .ok (.idiv, 1) := by decide +kernel
theorem d_Ni_holds_109 : decode b_Ni_holds 109 = .ok (.istore 8, 2) := by decide +kernel
theorem d_Ni_holds_111 : decode b_Ni_holds 111 = .ok (.iload 8, 2) := by decide +kernel
theorem d_Ni_holds_113 : decode b_Ni_holds 113 = .ok (.ifCond .lt 10, 3) := by decide +kernel
theorem d_Ni_holds_116 : decode b_Ni_holds 116 = .ok (.iload 8, 2) := by decide +kernel
theorem d_Ni_holds_118 : decode b_Ni_holds 118 = .ok (.aload_n 2, 1) := by decide +kernel
theorem d_Ni_holds_119 : decode b_Ni_holds 119 = .ok (.arraylength, 1) := by decide +kernel
theorem d_Ni_holds_120 : decode b_Ni_holds 120 = .ok (.if_icmp .lt 7, 3) := by decide +kernel
theorem d_Ni_holds_123 : decode b_Ni_holds 123 = .ok (.iconst 0, 1) := by decide +kernel
theorem d_Ni_holds_124 : decode b_Ni_holds 124 = .ok (.goto 7, 3) := by decide +kernel
theorem d_Ni_holds_127 : decode b_Ni_holds 127 = .ok (.aload_n 2, 1) := by decide +kernel
theorem d_Ni_holds_128 : decode b_Ni_holds 128 = .ok (.iload 8, 2) := by decide +kernel
theorem d_Ni_holds_130 : decode b_Ni_holds 130 = .ok (.iaload, 1) := by decide +kernel
theorem d_Ni_holds_131 : decode b_Ni_holds 131 = .ok (.istore 9, 2) := by decide +kernel
theorem d_Ni_holds_133 : decode b_Ni_holds 133 = .ok (.iload 6, 2) := by decide +kernel
theorem d_Ni_holds_135 : decode b_Ni_holds 135 = .ok (.bipush 100, 2) := by decide +kernel
theorem d_Ni_holds_137 : decode b_Ni_holds 137 = .ok (.idiv, 1) := by decide +kernel
theorem d_Ni_holds_138 : decode b_Ni_holds 138 = .ok (.iconst 3, 1) := by decide +kernel
theorem d_Ni_holds_139 : decode b_Ni_holds 139 = .ok (.irem, 1) := by decide +kernel
theorem d_Ni_holds_140 : decode b_Ni_holds 140 = .ok (.istore 10, 2) := by decide +kernel
theorem d_Ni_holds_142 : decode b_Ni_holds 142 = .ok (.iload 6, 2) := by decide +kernel
theorem d_Ni_holds_144 : decode b_Ni_holds 144 = .ok (.bipush 100, 2) := by decide +kernel
theorem d_Ni_holds_146 : decode b_Ni_holds 146 = .ok (.irem, 1) := by decide +kernel
theorem d_Ni_holds_147 : decode b_Ni_holds 147 = .ok (.istore 11, 2) := by decide +kernel
theorem d_Ni_holds_149 : decode b_Ni_holds 149 = .ok (.iload 10, 2) := by decide +kernel
theorem d_Ni_holds_151 : decode b_Ni_holds 151 = .ok (.ifCond .ne 18, 3) := by decide +kernel
theorem d_Ni_holds_154 : decode b_Ni_holds 154 = .ok (.iload 9, 2) := by decide +kernel
theorem d_Ni_holds_156 : decode b_Ni_holds 156 = .ok (.iload 11, 2) := by decide +kernel
theorem d_Ni_holds_158 : decode b_Ni_holds 158 = .ok (.if_icmp .ge 7, 3) := by decide +kernel
theorem d_Ni_holds_161 : decode b_Ni_holds 161 = .ok (.iconst 1, 1) := by decide +kernel
theorem d_Ni_holds_162 : decode b_Ni_holds 162 = .ok (.goto 40, 3) := by decide +kernel
theorem d_Ni_holds_165 : decode b_Ni_holds 165 = .ok (.iconst 0, 1) := by decide +kernel
theorem d_Ni_holds_166 : decode b_Ni_holds 166 = .ok (.goto 36, 3) := by decide +kernel
theorem d_Ni_holds_169 : decode b_Ni_holds 169 = .ok (.iload 10, 2) := by decide +kernel
theorem d_Ni_holds_171 : decode b_Ni_holds 171 = .ok (.iconst 1, 1) := by decide +kernel
theorem d_Ni_holds_172 : decode b_Ni_holds 172 = .ok (.if_icmp .ne 18, 3) := by decide +kernel
theorem d_Ni_holds_175 : decode b_Ni_holds 175 = .ok (.iload 9, 2) := by decide +kernel
theorem d_Ni_holds_177 : decode b_Ni_holds 177 = .ok (.iload 11, 2) := by decide +kernel
theorem d_Ni_holds_179 : decode b_Ni_holds 179 = .ok (.if_icmp .ne 7, 3) := by decide +kernel
theorem d_Ni_holds_182 : decode b_Ni_holds 182 = .ok (.iconst 1, 1) := by decide +kernel
theorem d_Ni_holds_183 : decode b_Ni_holds 183 = .ok (.goto 19, 3) := by decide +kernel
theorem d_Ni_holds_186 : decode b_Ni_holds 186 = .ok (.iconst 0, 1) := by decide +kernel
theorem d_Ni_holds_187 : decode b_Ni_holds 187 = .ok (.goto 15, 3) := by decide +kernel
theorem d_Ni_holds_190 : decode b_Ni_holds 190 = .ok (.iload 9, 2) := by decide +kernel
theorem d_Ni_holds_192 : decode b_Ni_holds 192 = .ok (.iload 11, 2) := by decide +kernel
theorem d_Ni_holds_194 : decode b_Ni_holds 194 = .ok (.if_icmp .le 7, 3) := by decide +kernel
theorem d_Ni_holds_197 : decode b_Ni_holds 197 = .ok (.iconst 1, 1) := by decide +kernel
theorem d_Ni_holds_198 : decode b_Ni_holds 198 = .ok (.goto 4, 3) := by decide +kernel
theorem d_Ni_holds_201 : decode b_Ni_holds 201 = .ok (.iconst 0, 1) := by decide +kernel
theorem d_Ni_holds_202 : decode b_Ni_holds 202 = .ok (.istore 12, 2) := by decide +kernel
theorem d_Ni_holds_204 : decode b_Ni_holds 204 = .ok (.iload 4, 2) := by decide +kernel
theorem d_Ni_holds_206 : decode b_Ni_holds 206 = .ok (.iconst 1, 1) := by decide +kernel
theorem d_Ni_holds_207 : decode b_Ni_holds 207 = .ok (.ishl, 1) := by decide +kernel
theorem d_Ni_holds_208 : decode b_Ni_holds 208 = .ok (.iload 12, 2) := by decide +kernel
theorem d_Ni_holds_210 : decode b_Ni_holds 210 = .ok (.ifCond .eq 7, 3) := by decide +kernel
theorem d_Ni_holds_213 : decode b_Ni_holds 213 = .ok (.iconst 1, 1) := by decide +kernel
theorem d_Ni_holds_214 : decode b_Ni_holds 214 = .ok (.goto 4, 3) := by decide +kernel
theorem d_Ni_holds_217 : decode b_Ni_holds 217 = .ok (.iconst 0, 1) := by decide +kernel
theorem d_Ni_holds_218 : decode b_Ni_holds 218 = .ok (.ior, 1) := by decide +kernel
theorem d_Ni_holds_219 : decode b_Ni_holds 219 = .ok (.istore 4, 2) := by decide +kernel
theorem d_Ni_holds_221 : decode b_Ni_holds 221 = .ok (.iinc 5 1, 3) := by decide +kernel
theorem d_Ni_holds_224 : decode b_Ni_holds 224 = .ok (.goto (-201), 3) := by decide +kernel
theorem d_Ni_holds_227 : decode b_Ni_holds 227 = .ok (.iload 4, 2) := by decide +kernel
theorem d_Ni_holds_229 : decode b_Ni_holds 229 = .ok (.iconst 1, 1) := by decide +kernel
theorem d_Ni_holds_230 : decode b_Ni_holds 230 = .ok (.iand, 1) := by decide +kernel
theorem d_Ni_holds_231 : decode b_Ni_holds 231 = .ok (.iconst 1, 1) := by decide +kernel
theorem d_Ni_holds_232 : decode b_Ni_holds 232 = .ok (.if_icmp .ne 7, 3) := by decide +kernel
theorem d_Ni_holds_235 : decode b_Ni_holds 235 = .ok (.iconst 1, 1) := by decide +kernel
theorem d_Ni_holds_236 : decode b_Ni_holds 236 = .ok (.goto 4, 3) := by decide +kernel
theorem d_Ni_holds_239 : decode b_Ni_holds 239 = .ok (.iconst 0, 1) := by decide +kernel
theorem d_Ni_holds_240 : decode b_Ni_holds 240 = .ok (.ireturn, 1) := by decide +kernel
def l_Ni_holds_23 (n : Nat) (tl : Nat) (I : Nat → Int32) (R : Nat → Nat → Int32) (fc : Nat → Int32)  (v1 : Int32)  : Nat → Int32 → Int32 → Option (Int32)
  | 0, _, _ => none
  | k + 1, v4, v5 => if ix v1 10 then (if ((R 9) v1.toNatClampNeg) ≤ v5 then some v4 else if ix v5 tl then (if ((R 5) v5.toNatClampNeg) = (-1) then some (v4 ^^^ 1) else (if ((R 5) v5.toNatClampNeg) = (-2) then some ((v4 >>> (1 &&& 31)) &&& (v4 ||| (-2))) else (if ((R 5) v5.toNatClampNeg) = (-3) then some ((v4 >>> (1 &&& 31)) ||| (v4 &&& 1)) else (if (((R 5) v5.toNatClampNeg) / 300) < 0 then some 0 else (if (((R 5) v5.toNatClampNeg) / 300) < (nI 6) then if ix (((R 5) v5.toNatClampNeg) / 300) 6 then some (fc (((R 5) v5.toNatClampNeg) / 300).toNatClampNeg) else none else some 0) : Option (Int32)).bind fun x9 => (if ((((R 5) v5.toNatClampNeg) / 100) - (((R 5) v5.toNatClampNeg) / 100) / 3 * 3) = 0 then (if (((R 5) v5.toNatClampNeg) - ((R 5) v5.toNatClampNeg) / 100 * 100) ≤ x9 then some 0 else some 1) else (if ((((R 5) v5.toNatClampNeg) / 100) - (((R 5) v5.toNatClampNeg) / 100) / 3 * 3) = 1 then (if x9 = (((R 5) v5.toNatClampNeg) - ((R 5) v5.toNatClampNeg) / 100 * 100) then some 1 else some 0) else (if x9 ≤ (((R 5) v5.toNatClampNeg) - ((R 5) v5.toNatClampNeg) / 100 * 100) then some 0 else some 1)) : Option (Int32)).bind fun x12 => (if x12 = 0 then some 0 else some 1 : Option (Int32)).bind fun x14 => some ((v4 <<< (1 &&& 31)) ||| x14))) : Option (Int32)).bind fun x7 => l_Ni_holds_23 n tl I R fc v1 k x7 (v5 + 1) else none) else none
set_option maxHeartbeats 4000000 in
theorem wl_Ni_holds_23 {Q : State → Prop}  {p : Program} {l : Launch} {e : Env} {s : State} {m : MethodId} {args : Array Value} {below : List Frame} {meth : Method} {c : Code} (hx : p.tables.exec = Jvm.exec) (hb : c.code = b_Ni_holds) (hml : c.maxLocals = 13) (hown : s.vm.findClass "LanternBridge$Night" = some m.cls) (hT : ∀ w ∈ WT, w.before args s = true) (hr : meth.sig.returnType = some .boolean) (hlk : meth.locks = false) {dC : Nat → ClassId} {dI : Nat → Nat → Nat} {ad : Nat → Nat} {cI : ClassId} {af tl : Nat} {I : Nat → Int32} {R : Nat → Nat → Int32} {fc : Nat → Int32} (hK : va_K (dC, dI) CL [(cI, .int)] s) (hP : va_P (dC, dI) CL (qX ad cI tl I R af fc) s.heap) (n : Nat)  (v1 : Int32)  : ∀ (k : Nat) (v4 : Int32) (v5 : Int32) (r0 : Int32), l_Ni_holds_23 n tl I R fc v1 k v4 v5 = some r0 → (∀ (ls : Array Slot), lv_has ls 13 [(4, .int r0)] → W p l e (rL 5) s m args below meth c s.heap [] 0 0 Q (F0 m 227 ls [])) → ∀ (ls : Array Slot), lv_has ls 13 [(0, .ref (ad 0)), (1, .int v1), (2, .ref af), (4, .int v4), (5, .int v5)] → W p l e (rL 5) s m args below meth c s.heap [] 0 0 Q (F0 m 23 ls []) := by
  intro k
  induction k with
  | zero => intro v4 v5 r0 hf; exact absurd hf (by unfold l_Ni_holds_23; exact fun h9 => by cases h9)
  | succ k ih =>
    intro v4 v5 r0 hf K ls hl
    unfold l_Ni_holds_23 at hf
    refine lv_iload hx hb d_Ni_holds_23 (lv_at hl 4 rfl) ?_
    refine lv_aload_n hx hb d_Ni_holds_25 rfl (lv_at hl 0 rfl) ?_
    refine qg_9 hx hb hT hown hK hP fl_Ni_26 d_Ni_holds_26 ?_
    refine lv_iload_n hx hb d_Ni_holds_29 rfl (lv_at hl 1 rfl) ?_
    obtain ⟨h4, hf⟩ := op_if hf
    refine qa_9 hx hb hK hP rfl h4 d_Ni_holds_30 ?_
    refine lv_icmp_ge (tgt := 227) hx hb d_Ni_holds_31 (by decide) (fun hc => ?_) (fun hc => ?_)
    · have hf := op_t hc hf
      obtain rfl := op_i1 hf
      exact K ls (lv_sub hl [3] rfl)
    · have hf := op_f hc hf
      refine lv_aload_n hx hb d_Ni_holds_34 rfl (lv_at hl 0 rfl) ?_
      refine qg_5 hx hb hT hown hK hP fl_Ni_47 d_Ni_holds_35 ?_
      refine lv_iload hx hb d_Ni_holds_38 (lv_at hl 4 rfl) ?_
      obtain ⟨h5, hf⟩ := op_if hf
      refine qa_5 hx hb hK hP rfl h5 d_Ni_holds_40 ?_
      refine lv_istore (lv' := [(6, .int ((R 5) v5.toNatClampNeg)), (0, .ref (ad 0)), (1, .int v1), (2, .ref af), (4, .int v4), (5, .int v5)]) hx hb d_Ni_holds_41 hl (by decide) rfl (fun ls hl => ?_)
      refine lv_iload hx hb d_Ni_holds_43 (lv_at hl 4 rfl) ?_
      refine lv_iconst (v := 1) hx hb d_Ni_holds_45 (by decide) ?_
      refine lv_ishr hx hb d_Ni_holds_46 ?_
      refine lv_istore (lv' := [(7, .int (v4 >>> (1 &&& 31))), (6, .int ((R 5) v5.toNatClampNeg)), (0, .ref (ad 0)), (1, .int v1), (2, .ref af), (4, .int v4), (5, .int v5)]) hx hb d_Ni_holds_47 hl (by decide) rfl (fun ls hl => ?_)
      refine lv_iload hx hb d_Ni_holds_49 (lv_at hl 1 rfl) ?_
      refine lv_iconst (v := (-1)) hx hb d_Ni_holds_51 (by decide) ?_
      obtain ⟨x7, he, hf⟩ := op_bind hf
      have K6 : ∀ (ls : Array Slot), lv_has ls 13 [(0, .ref (ad 0)), (1, .int v1), (2, .ref af), (4, .int x7), (5, .int v5)] → W p l e (rL 5) s m args below meth c s.heap [] 0 0 Q (F0 m 221 ls []) := by
        intro ls hl
        refine lv_iinc (v := (v5 + 1)) (lv' := [(5, .int (v5 + 1)), (0, .ref (ad 0)), (1, .int v1), (2, .ref af), (4, .int x7)]) hx hb d_Ni_holds_221 hl (k := 4) rfl rfl (by decide) rfl (fun ls hl => ?_)
        refine lv_goto (tgt := 23) hx hb d_Ni_holds_224 (by decide) ?_
        exact ih x7 (v5 + 1) _ hf K ls (lv_sub hl [1, 2, 3, 4, 0] rfl)
      have hf := he
      refine lv_icmp_ne (tgt := 64) hx hb d_Ni_holds_52 (by decide) (fun hc => ?_) (fun hc => ?_)
      · have hf := op_f hc hf
        refine lv_iload hx hb d_Ni_holds_64 (lv_at hl 1 rfl) ?_
        refine lv_bipush (v := (-2)) hx hb d_Ni_holds_66 (by decide) ?_
        refine lv_icmp_ne (tgt := 84) hx hb d_Ni_holds_68 (by decide) (fun hc => ?_) (fun hc => ?_)
        · have hf := op_f hc hf
          refine lv_iload hx hb d_Ni_holds_84 (lv_at hl 1 rfl) ?_
          refine lv_bipush (v := (-3)) hx hb d_Ni_holds_86 (by decide) ?_
          refine lv_icmp_ne (tgt := 103) hx hb d_Ni_holds_88 (by decide) (fun hc => ?_) (fun hc => ?_)
          · have hf := op_f hc hf
            refine lv_iload hx hb d_Ni_holds_103 (lv_at hl 1 rfl) ?_
            refine lv_sipush (v := 300) hx hb d_Ni_holds_105 (by decide) ?_
            refine lv_idiv hx hb d_Ni_holds_108 (by decide) ?_
            refine lv_istore (lv' := [(8, .int (((R 5) v5.toNatClampNeg) / 300)), (7, .int (v4 >>> (1 &&& 31))), (6, .int ((R 5) v5.toNatClampNeg)), (0, .ref (ad 0)), (1, .int v1), (2, .ref af), (4, .int v4), (5, .int v5)]) hx hb d_Ni_holds_109 hl (by decide) rfl (fun ls hl => ?_)
            refine lv_iload hx hb d_Ni_holds_111 (lv_at hl 0 rfl) ?_
            obtain ⟨x9, he, hf⟩ := op_bind hf
            have K8 : ∀ (ls : Array Slot), lv_has ls 13 [(0, .ref (ad 0)), (1, .int v1), (2, .ref af), (4, .int v4), (5, .int v5), (6, .int ((R 5) v5.toNatClampNeg))] → W p l e (rL 5) s m args below meth c s.heap [] 0 0 Q (F0 m 131 ls [.int x9]) := by
              intro ls hl
              refine lv_istore (lv' := [(9, .int x9), (0, .ref (ad 0)), (1, .int v1), (2, .ref af), (4, .int v4), (5, .int v5), (6, .int ((R 5) v5.toNatClampNeg))]) hx hb d_Ni_holds_131 hl (by decide) rfl (fun ls hl => ?_)
              refine lv_iload hx hb d_Ni_holds_133 (lv_at hl 6 rfl) ?_
              refine lv_bipush (v := 100) hx hb d_Ni_holds_135 (by decide) ?_
              refine lv_idiv hx hb d_Ni_holds_137 (by decide) ?_
              refine lv_iconst (v := 3) hx hb d_Ni_holds_138 (by decide) ?_
              refine lv_irem hx hb d_Ni_holds_139 (by decide) ?_
              refine lv_istore (lv' := [(10, .int ((((R 5) v5.toNatClampNeg) / 100) - (((R 5) v5.toNatClampNeg) / 100) / 3 * 3)), (9, .int x9), (0, .ref (ad 0)), (1, .int v1), (2, .ref af), (4, .int v4), (5, .int v5), (6, .int ((R 5) v5.toNatClampNeg))]) hx hb d_Ni_holds_140 hl (by decide) rfl (fun ls hl => ?_)
              refine lv_iload hx hb d_Ni_holds_142 (lv_at hl 7 rfl) ?_
              refine lv_bipush (v := 100) hx hb d_Ni_holds_144 (by decide) ?_
              refine lv_irem hx hb d_Ni_holds_146 (by decide) ?_
              refine lv_istore (lv' := [(11, .int (((R 5) v5.toNatClampNeg) - ((R 5) v5.toNatClampNeg) / 100 * 100)), (10, .int ((((R 5) v5.toNatClampNeg) / 100) - (((R 5) v5.toNatClampNeg) / 100) / 3 * 3)), (9, .int x9), (0, .ref (ad 0)), (1, .int v1), (2, .ref af), (4, .int v4), (5, .int v5), (6, .int ((R 5) v5.toNatClampNeg))]) hx hb d_Ni_holds_147 hl (by decide) rfl (fun ls hl => ?_)
              refine lv_iload hx hb d_Ni_holds_149 (lv_at hl 1 rfl) ?_
              obtain ⟨x12, he, hf⟩ := op_bind hf
              have K11 : ∀ (ls : Array Slot), lv_has ls 13 [(0, .ref (ad 0)), (1, .int v1), (2, .ref af), (4, .int v4), (5, .int v5)] → W p l e (rL 5) s m args below meth c s.heap [] 0 0 Q (F0 m 202 ls [.int x12]) := by
                intro ls hl
                refine lv_istore (lv' := [(12, .int x12), (0, .ref (ad 0)), (1, .int v1), (2, .ref af), (4, .int v4), (5, .int v5)]) hx hb d_Ni_holds_202 hl (by decide) rfl (fun ls hl => ?_)
                refine lv_iload hx hb d_Ni_holds_204 (lv_at hl 4 rfl) ?_
                refine lv_iconst (v := 1) hx hb d_Ni_holds_206 (by decide) ?_
                refine lv_ishl hx hb d_Ni_holds_207 ?_
                refine lv_iload hx hb d_Ni_holds_208 (lv_at hl 0 rfl) ?_
                obtain ⟨x14, he, hf⟩ := op_bind hf
                have K13 : ∀ (ls : Array Slot), lv_has ls 13 [(0, .ref (ad 0)), (1, .int v1), (2, .ref af), (5, .int v5)] → W p l e (rL 5) s m args below meth c s.heap [] 0 0 Q (F0 m 218 ls [.int x14, .int (v4 <<< (1 &&& 31))]) := by
                  intro ls hl
                  refine lv_ior hx hb d_Ni_holds_218 ?_
                  refine lv_istore (lv' := [(4, .int ((v4 <<< (1 &&& 31)) ||| x14)), (0, .ref (ad 0)), (1, .int v1), (2, .ref af), (5, .int v5)]) hx hb d_Ni_holds_219 hl (by decide) rfl (fun ls hl => ?_)
                  obtain rfl := op_i1 hf
                  exact K6 ls (lv_sub hl [1, 2, 3, 0, 4] rfl)
                have hf := he
                refine lv_if_eq (tgt := 217) hx hb d_Ni_holds_210 (by decide) (fun hc => ?_) (fun hc => ?_)
                · have hf := op_t hc hf
                  refine lv_iconst (v := 0) hx hb d_Ni_holds_217 (by decide) ?_
                  obtain rfl := op_i1 hf
                  exact K13 ls (lv_sub hl [1, 2, 3, 5] rfl)
                · have hf := op_f hc hf
                  refine lv_iconst (v := 1) hx hb d_Ni_holds_213 (by decide) ?_
                  refine lv_goto (tgt := 218) hx hb d_Ni_holds_214 (by decide) ?_
                  obtain rfl := op_i1 hf
                  exact K13 ls (lv_sub hl [1, 2, 3, 5] rfl)
              have hf := he
              refine lv_if_ne (tgt := 169) hx hb d_Ni_holds_151 (by decide) (fun hc => ?_) (fun hc => ?_)
              · have hf := op_f hc hf
                refine lv_iload hx hb d_Ni_holds_169 (lv_at hl 1 rfl) ?_
                refine lv_iconst (v := 1) hx hb d_Ni_holds_171 (by decide) ?_
                refine lv_icmp_ne (tgt := 190) hx hb d_Ni_holds_172 (by decide) (fun hc => ?_) (fun hc => ?_)
                · have hf := op_f hc hf
                  refine lv_iload hx hb d_Ni_holds_190 (lv_at hl 2 rfl) ?_
                  refine lv_iload hx hb d_Ni_holds_192 (lv_at hl 0 rfl) ?_
                  refine lv_icmp_le (tgt := 201) hx hb d_Ni_holds_194 (by decide) (fun hc => ?_) (fun hc => ?_)
                  · have hf := op_t hc hf
                    refine lv_iconst (v := 0) hx hb d_Ni_holds_201 (by decide) ?_
                    obtain rfl := op_i1 hf
                    exact K11 ls (lv_sub hl [3, 4, 5, 6, 7] rfl)
                  · have hf := op_f hc hf
                    refine lv_iconst (v := 1) hx hb d_Ni_holds_197 (by decide) ?_
                    refine lv_goto (tgt := 202) hx hb d_Ni_holds_198 (by decide) ?_
                    obtain rfl := op_i1 hf
                    exact K11 ls (lv_sub hl [3, 4, 5, 6, 7] rfl)
                · have hf := op_t hc hf
                  refine lv_iload hx hb d_Ni_holds_175 (lv_at hl 2 rfl) ?_
                  refine lv_iload hx hb d_Ni_holds_177 (lv_at hl 0 rfl) ?_
                  refine lv_icmp_ne (tgt := 186) hx hb d_Ni_holds_179 (by decide) (fun hc => ?_) (fun hc => ?_)
                  · have hf := op_f hc hf
                    refine lv_iconst (v := 0) hx hb d_Ni_holds_186 (by decide) ?_
                    refine lv_goto (tgt := 202) hx hb d_Ni_holds_187 (by decide) ?_
                    obtain rfl := op_i1 hf
                    exact K11 ls (lv_sub hl [3, 4, 5, 6, 7] rfl)
                  · have hf := op_t hc hf
                    refine lv_iconst (v := 1) hx hb d_Ni_holds_182 (by decide) ?_
                    refine lv_goto (tgt := 202) hx hb d_Ni_holds_183 (by decide) ?_
                    obtain rfl := op_i1 hf
                    exact K11 ls (lv_sub hl [3, 4, 5, 6, 7] rfl)
              · have hf := op_t hc hf
                refine lv_iload hx hb d_Ni_holds_154 (lv_at hl 2 rfl) ?_
                refine lv_iload hx hb d_Ni_holds_156 (lv_at hl 0 rfl) ?_
                refine lv_icmp_ge (tgt := 165) hx hb d_Ni_holds_158 (by decide) (fun hc => ?_) (fun hc => ?_)
                · have hf := op_t hc hf
                  refine lv_iconst (v := 0) hx hb d_Ni_holds_165 (by decide) ?_
                  refine lv_goto (tgt := 202) hx hb d_Ni_holds_166 (by decide) ?_
                  obtain rfl := op_i1 hf
                  exact K11 ls (lv_sub hl [3, 4, 5, 6, 7] rfl)
                · have hf := op_f hc hf
                  refine lv_iconst (v := 1) hx hb d_Ni_holds_161 (by decide) ?_
                  refine lv_goto (tgt := 202) hx hb d_Ni_holds_162 (by decide) ?_
                  obtain rfl := op_i1 hf
                  exact K11 ls (lv_sub hl [3, 4, 5, 6, 7] rfl)
            have hf := he
            refine lv_if_lt (tgt := 123) hx hb d_Ni_holds_113 (by decide) (fun hc => ?_) (fun hc => ?_)
            · have hf := op_t hc hf
              refine lv_iconst (v := 0) hx hb d_Ni_holds_123 (by decide) ?_
              refine lv_goto (tgt := 131) hx hb d_Ni_holds_124 (by decide) ?_
              obtain rfl := op_i1 hf
              exact K8 ls (lv_sub hl [3, 4, 5, 6, 7, 2] rfl)
            · have hf := op_f hc hf
              refine lv_iload hx hb d_Ni_holds_116 (lv_at hl 0 rfl) ?_
              refine lv_aload_n hx hb d_Ni_holds_118 rfl (lv_at hl 5 rfl) ?_
              refine ql_11 hx hb hK hP d_Ni_holds_119 ?_
              refine lv_icmp_lt (tgt := 127) hx hb d_Ni_holds_120 (by decide) (fun hc => ?_) (fun hc => ?_)
              · have hf := op_t hc hf
                refine lv_aload_n hx hb d_Ni_holds_127 rfl (lv_at hl 5 rfl) ?_
                refine lv_iload hx hb d_Ni_holds_128 (lv_at hl 0 rfl) ?_
                obtain ⟨h10, hf⟩ := op_if hf
                refine qa_11 hx hb hK hP rfl h10 d_Ni_holds_130 ?_
                obtain rfl := op_i1 hf
                exact K8 ls (lv_sub hl [3, 4, 5, 6, 7, 2] rfl)
              · have hf := op_f hc hf
                refine lv_iconst (v := 0) hx hb d_Ni_holds_123 (by decide) ?_
                refine lv_goto (tgt := 131) hx hb d_Ni_holds_124 (by decide) ?_
                obtain rfl := op_i1 hf
                exact K8 ls (lv_sub hl [3, 4, 5, 6, 7, 2] rfl)
          · have hf := op_t hc hf
            refine lv_iload hx hb d_Ni_holds_91 (lv_at hl 0 rfl) ?_
            refine lv_iload hx hb d_Ni_holds_93 (lv_at hl 5 rfl) ?_
            refine lv_iconst (v := 1) hx hb d_Ni_holds_95 (by decide) ?_
            refine lv_iand hx hb d_Ni_holds_96 ?_
            refine lv_ior hx hb d_Ni_holds_97 ?_
            refine lv_istore (lv' := [(4, .int ((v4 >>> (1 &&& 31)) ||| (v4 &&& 1))), (7, .int (v4 >>> (1 &&& 31))), (6, .int ((R 5) v5.toNatClampNeg)), (0, .ref (ad 0)), (1, .int v1), (2, .ref af), (5, .int v5)]) hx hb d_Ni_holds_98 hl (by decide) rfl (fun ls hl => ?_)
            refine lv_goto (tgt := 221) hx hb d_Ni_holds_100 (by decide) ?_
            obtain rfl := op_i1 hf
            exact K6 ls (lv_sub hl [3, 4, 5, 0, 6] rfl)
        · have hf := op_t hc hf
          refine lv_iload hx hb d_Ni_holds_71 (lv_at hl 0 rfl) ?_
          refine lv_iload hx hb d_Ni_holds_73 (lv_at hl 5 rfl) ?_
          refine lv_bipush (v := (-2)) hx hb d_Ni_holds_75 (by decide) ?_
          refine lv_ior hx hb d_Ni_holds_77 ?_
          refine lv_iand hx hb d_Ni_holds_78 ?_
          refine lv_istore (lv' := [(4, .int ((v4 >>> (1 &&& 31)) &&& (v4 ||| (-2)))), (7, .int (v4 >>> (1 &&& 31))), (6, .int ((R 5) v5.toNatClampNeg)), (0, .ref (ad 0)), (1, .int v1), (2, .ref af), (5, .int v5)]) hx hb d_Ni_holds_79 hl (by decide) rfl (fun ls hl => ?_)
          refine lv_goto (tgt := 221) hx hb d_Ni_holds_81 (by decide) ?_
          obtain rfl := op_i1 hf
          exact K6 ls (lv_sub hl [3, 4, 5, 0, 6] rfl)
      · have hf := op_t hc hf
        refine lv_iload hx hb d_Ni_holds_55 (lv_at hl 5 rfl) ?_
        refine lv_iconst (v := 1) hx hb d_Ni_holds_57 (by decide) ?_
        refine lv_ixor hx hb d_Ni_holds_58 ?_
        refine lv_istore (lv' := [(4, .int (v4 ^^^ 1)), (7, .int (v4 >>> (1 &&& 31))), (6, .int ((R 5) v5.toNatClampNeg)), (0, .ref (ad 0)), (1, .int v1), (2, .ref af), (5, .int v5)]) hx hb d_Ni_holds_59 hl (by decide) rfl (fun ls hl => ?_)
        refine lv_goto (tgt := 221) hx hb d_Ni_holds_61 (by decide) ?_
        obtain rfl := op_i1 hf
        exact K6 ls (lv_sub hl [3, 4, 5, 0, 6] rfl)
def p_Ni_holds (n : Nat) (tl : Nat) (I : Nat → Int32) (R : Nat → Nat → Int32) (fc : Nat → Int32) (v1 : Int32)  : Option (Int32) := (if v1 ≤ 0 then some 0 else if ix (v1 - 1) 10 then some ((R 9) (v1 - 1).toNatClampNeg) else none : Option (Int32)).bind fun x2 => (l_Ni_holds_23 n tl I R fc v1 n 0 x2).bind fun y15 => (if (y15 &&& 1) = 1 then some 1 else some 0 : Option (Int32)).bind fun x17 => if isZ x17 then some x17 else none
set_option maxHeartbeats 4000000 in
theorem c_Ni_holds (l : Launch) (n : Nat) (tl : Nat) (I : Nat → Int32) (R : Nat → Nat → Int32) (fc : Nat → Int32) (dC : Nat → ClassId) (dI : Nat → Nat → Nat) (ad : Nat → Nat) (cI : ClassId) (af : Nat) (v1 : Int32)   : ROi l y_Ni_holds b_Ni_holds 13 (.boolean) (rL 5) (qB dC dI ad cI af tl I R fc) [.ref (ad 0), .int v1, .ref af] (p_Ni_holds n tl I R fc v1 ) := by
  refine en_roi (by decide) (Nat.le_of_ble_eq_true rfl) ?_
  intro z hf p e s m args below meth c ls hx hb hml hown hT hr hlk hB hl
  obtain ⟨hK, hP⟩ := hB
  have hl : lv_has ls 13 [(0, .ref (ad 0)), (1, .int v1), (2, .ref af)] := hl
  unfold p_Ni_holds at hf
  refine lv_iload_n hx hb d_Ni_holds_0 rfl (lv_at hl 1 rfl) ?_
  obtain ⟨x2, he, hf⟩ := op_bind hf
  have K1 : ∀ (ls : Array Slot), lv_has ls 13 [(0, .ref (ad 0)), (1, .int v1), (2, .ref af)] → W p l e (rL 5) s m args below meth c s.heap [] 0 0 (MQ below (fun _ st oc t => oc = .returned (some (.int z)) ∧ t.heap = st.heap) args s 0 0 (fun _ => False)) (F0 m 16 ls [.int x2]) := by
    intro ls hl
    refine lv_istore_n (lv' := [(3, .int x2), (0, .ref (ad 0)), (1, .int v1), (2, .ref af)]) hx hb d_Ni_holds_16 rfl hl (by decide) rfl (fun ls hl => ?_)
    refine lv_iconst (v := 0) hx hb d_Ni_holds_17 (by decide) ?_
    refine lv_istore (lv' := [(4, .int 0), (3, .int x2), (0, .ref (ad 0)), (1, .int v1), (2, .ref af)]) hx hb d_Ni_holds_18 hl (by decide) rfl (fun ls hl => ?_)
    refine lv_iload_n hx hb d_Ni_holds_20 rfl (lv_at hl 1 rfl) ?_
    refine lv_istore (lv' := [(5, .int x2), (4, .int 0), (3, .int x2), (0, .ref (ad 0)), (1, .int v1), (2, .ref af)]) hx hb d_Ni_holds_21 hl (by decide) rfl (fun ls hl => ?_)
    obtain ⟨y15, he, hf⟩ := op_bind hf
    refine wl_Ni_holds_23 hx hb hml hown hT hr hlk hK hP n v1 n 0 x2 _ he (fun ls hl => ?_) ls (lv_sub hl [3, 4, 5, 1, 0] rfl)
    refine lv_iload hx hb d_Ni_holds_227 (lv_at hl 0 rfl) ?_
    refine lv_iconst (v := 1) hx hb d_Ni_holds_229 (by decide) ?_
    refine lv_iand hx hb d_Ni_holds_230 ?_
    refine lv_iconst (v := 1) hx hb d_Ni_holds_231 (by decide) ?_
    obtain ⟨x17, he, hf⟩ := op_bind hf
    have K16 : ∀ (ls : Array Slot), lv_has ls 13 [] → W p l e (rL 5) s m args below meth c s.heap [] 0 0 (MQ below (fun _ st oc t => oc = .returned (some (.int z)) ∧ t.heap = st.heap) args s 0 0 (fun _ => False)) (F0 m 240 ls [.int x17]) := by
      intro ls hl
      obtain ⟨h18, hf⟩ := op_if hf
      obtain rfl := op_i1 hf
      exact rt_si hx hb hr hlk (isZ_nar h18) d_Ni_holds_240
    have hf := he
    refine lv_icmp_ne (tgt := 239) hx hb d_Ni_holds_232 (by decide) (fun hc => ?_) (fun hc => ?_)
    · have hf := op_f hc hf
      refine lv_iconst (v := 0) hx hb d_Ni_holds_239 (by decide) ?_
      obtain rfl := op_i1 hf
      exact K16 ls (lv_sub hl [] rfl)
    · have hf := op_t hc hf
      refine lv_iconst (v := 1) hx hb d_Ni_holds_235 (by decide) ?_
      refine lv_goto (tgt := 240) hx hb d_Ni_holds_236 (by decide) ?_
      obtain rfl := op_i1 hf
      exact K16 ls (lv_sub hl [] rfl)
  have hf := he
  refine lv_if_le (tgt := 15) hx hb d_Ni_holds_1 (by decide) (fun hc => ?_) (fun hc => ?_)
  · have hf := op_t hc hf
    refine lv_iconst (v := 0) hx hb d_Ni_holds_15 (by decide) ?_
    obtain rfl := op_i1 hf
    exact K1 ls (lv_sub hl [0, 1, 2] rfl)
  · have hf := op_f hc hf
    refine lv_aload_n hx hb d_Ni_holds_4 rfl (lv_at hl 0 rfl) ?_
    refine qg_9 hx hb hT hown hK hP fl_Ni_26 d_Ni_holds_5 ?_
    refine lv_iload_n hx hb d_Ni_holds_8 rfl (lv_at hl 1 rfl) ?_
    refine lv_iconst (v := 1) hx hb d_Ni_holds_9 (by decide) ?_
    refine lv_isub hx hb d_Ni_holds_10 ?_
    obtain ⟨h3, hf⟩ := op_if hf
    refine qa_9 hx hb hK hP rfl h3 d_Ni_holds_11 ?_
    refine lv_goto (tgt := 16) hx hb d_Ni_holds_12 (by decide) ?_
    obtain rfl := op_i1 hf
    exact K1 ls (lv_sub hl [0, 1, 2] rfl)
theorem hd_Ni_slowness : y_Ni_slowness.cls ≠ "java/lang/invoke/MethodHandle" ∧ y_Ni_slowness.cls ≠ "java/lang/invoke/VarHandle" ∧ (parseMethodDescriptor y_Ni_slowness.desc).map (fun d => d.parameters.length) = some 1 := by decide +kernel
theorem d_Ni_slowness_0 : decode b_Ni_slowness 0 = .ok (.iconst 0, 1) := by decide +kernel
theorem d_Ni_slowness_1 : decode b_Ni_slowness 1 = .ok (.istore_n 2, 1) := by decide +kernel
theorem d_Ni_slowness_2 : decode b_Ni_slowness 2 = .ok (.iconst 0, 1) := by decide +kernel
theorem d_Ni_slowness_3 : decode b_Ni_slowness 3 = .ok (.istore_n 3, 1) := by decide +kernel
theorem d_Ni_slowness_4 : decode b_Ni_slowness 4 = .ok (.iload_n 3, 1) := by decide +kernel
theorem d_Ni_slowness_5 : decode b_Ni_slowness 5 = .ok (.aload_n 0, 1) := by decide +kernel
theorem d_Ni_slowness_6 : decode b_Ni_slowness 6 = .ok (.getfield 72, 3) := by decide +kernel
theorem d_Ni_slowness_9 : decode b_Ni_slowness 9 = .ok (.if_icmp .ge 36, 3) := by decide +kernel
theorem d_Ni_slowness_12 : decode b_Ni_slowness 12 = .ok (.aload_n 0, 1) := by decide +kernel
theorem d_Ni_slowness_13 : decode b_Ni_slowness 13 = .ok (.getfield 19, 3) := by decide +kernel
theorem d_Ni_slowness_16 : decode b_Ni_slowness 16 = .ok (.iload_n 3, 1) := by decide +kernel
theorem d_Ni_slowness_17 : decode b_Ni_slowness 17 = .ok (.iaload, 1) := by decide +kernel
theorem d_Ni_slowness_18 : decode b_Ni_slowness 18 = .ok (.ifCond .ne 21, 3) := by decide +kernel
theorem d_Ni_slowness_21 : decode b_Ni_slowness 21 = .ok (.aload_n 0, 1) := by decide +kernel
theorem d_Ni_slowness_22 : decode b_Ni_slowness 22 = .ok (.iload_n 3, 1) := by decide +kernel
theorem d_Ni_slowness_23 : decode b_Ni_slowness 23 = .ok (.aload_n 1, 1) := by decide +kernel
theorem d_Ni_slowness_24 : decode b_Ni_slowness 24 = .ok (.invokevirtual 127, 3) := by decide +kernel
theorem d_Ni_slowness_27 : decode b_Ni_slowness 27 = .ok (.ifCond .eq 12, 3) := by decide +kernel
theorem d_Ni_slowness_30 : decode b_Ni_slowness 30 = .ok (.iload_n 2, 1) := by decide +kernel
theorem d_Ni_slowness_31 : decode b_Ni_slowness 31 = .ok (.aload_n 0, 1) := by decide +kernel
theorem d_Ni_slowness_32 : decode b_Ni_slowness 32 = .ok (.getfield 23, 3) := by decide +kernel
theorem d_Ni_slowness_35 : decode b_Ni_slowness 35 = .ok (.iload_n 3, 1) := by decide +kernel
theorem d_Ni_slowness_36 : decode b_Ni_slowness 36 = .ok (.iaload, 1) := by decide +kernel
theorem d_Ni_slowness_37 : decode b_Ni_slowness 37 = .ok (.iadd, 1) := by decide +kernel
theorem d_Ni_slowness_38 : decode b_Ni_slowness 38 = .ok (.istore_n 2, 1) := by decide +kernel
theorem d_Ni_slowness_39 : decode b_Ni_slowness 39 = .ok (.iinc 3 1, 3) := by decide +kernel
theorem d_Ni_slowness_42 : decode b_Ni_slowness 42 = .ok (.goto (-38), 3) := by decide +kernel
theorem d_Ni_slowness_45 : decode b_Ni_slowness 45 = .ok (.iload_n 2, 1) := by decide +kernel
theorem d_Ni_slowness_46 : decode b_Ni_slowness 46 = .ok (.ireturn, 1) := by decide +kernel
def l_Ni_slowness_4 (n : Nat) (tl : Nat) (I : Nat → Int32) (R : Nat → Nat → Int32) (fc : Nat → Int32)    : Nat → Int32 → Int32 → Option (Int32)
  | 0, _, _ => none
  | k + 1, v2, v3 => (if (I 10) ≤ v3 then some v2 else if ix v3 10 then (if ((R 7) v3.toNatClampNeg) = 0 then (p_Ni_holds n tl I R fc v3).bind fun x5 => (if x5 = 0 then some v2 else if ix v3 10 then some (v2 + ((R 8) v3.toNatClampNeg)) else none) else some v2 : Option (Int32)).bind fun x3 => l_Ni_slowness_4 n tl I R fc k x3 (v3 + 1) else none)
set_option maxHeartbeats 4000000 in
theorem wl_Ni_slowness_4 {Q : State → Prop}  {p : Program} {l : Launch} {e : Env} {s : State} {m : MethodId} {args : Array Value} {below : List Frame} {meth : Method} {c : Code} (hx : p.tables.exec = Jvm.exec) (hb : c.code = b_Ni_slowness) (hml : c.maxLocals = 4) (hown : s.vm.findClass "LanternBridge$Night" = some m.cls) (hT : ∀ w ∈ WT, w.before args s = true) (hr : meth.sig.returnType = some .int) (hlk : meth.locks = false) {dC : Nat → ClassId} {dI : Nat → Nat → Nat} {ad : Nat → Nat} {cI : ClassId} {af tl : Nat} {I : Nat → Int32} {R : Nat → Nat → Int32} {fc : Nat → Int32} (hK : va_K (dC, dI) CL [(cI, .int)] s) (hP : va_P (dC, dI) CL (qX ad cI tl I R af fc) s.heap) (n : Nat)    : ∀ (k : Nat) (v2 : Int32) (v3 : Int32) (r0 : Int32), l_Ni_slowness_4 n tl I R fc k v2 v3 = some r0 → (∀ (ls : Array Slot), lv_has ls 4 [(2, .int r0)] → W p l e (rL 6) s m args below meth c s.heap [] 0 0 Q (F0 m 45 ls [])) → ∀ (ls : Array Slot), lv_has ls 4 [(0, .ref (ad 0)), (1, .ref af), (2, .int v2), (3, .int v3)] → W p l e (rL 6) s m args below meth c s.heap [] 0 0 Q (F0 m 4 ls []) := by
  intro k
  induction k with
  | zero => intro v2 v3 r0 hf; exact absurd hf (by unfold l_Ni_slowness_4; exact fun h9 => by cases h9)
  | succ k ih =>
    intro v2 v3 r0 hf K ls hl
    unfold l_Ni_slowness_4 at hf
    refine lv_iload_n hx hb d_Ni_slowness_4 rfl (lv_at hl 3 rfl) ?_
    refine lv_aload_n hx hb d_Ni_slowness_5 rfl (lv_at hl 0 rfl) ?_
    refine qg_10 hx hb hT hown hK hP fl_Ni_72 d_Ni_slowness_6 ?_
    refine lv_icmp_ge (tgt := 45) hx hb d_Ni_slowness_9 (by decide) (fun hc => ?_) (fun hc => ?_)
    · have hf := op_t hc hf
      obtain rfl := op_i1 hf
      exact K ls (lv_sub hl [2] rfl)
    · have hf := op_f hc hf
      refine lv_aload_n hx hb d_Ni_slowness_12 rfl (lv_at hl 0 rfl) ?_
      refine qg_7 hx hb hT hown hK hP fl_Ni_19 d_Ni_slowness_13 ?_
      refine lv_iload_n hx hb d_Ni_slowness_16 rfl (lv_at hl 3 rfl) ?_
      obtain ⟨h1, hf⟩ := op_if hf
      refine qa_7 hx hb hK hP rfl h1 d_Ni_slowness_17 ?_
      obtain ⟨x3, he, hf⟩ := op_bind hf
      have K2 : ∀ (ls : Array Slot), lv_has ls 4 [(0, .ref (ad 0)), (1, .ref af), (2, .int x3), (3, .int v3)] → W p l e (rL 6) s m args below meth c s.heap [] 0 0 Q (F0 m 39 ls []) := by
        intro ls hl
        refine lv_iinc (v := (v3 + 1)) (lv' := [(3, .int (v3 + 1)), (0, .ref (ad 0)), (1, .ref af), (2, .int x3)]) hx hb d_Ni_slowness_39 hl (k := 3) rfl rfl (by decide) rfl (fun ls hl => ?_)
        refine lv_goto (tgt := 4) hx hb d_Ni_slowness_42 (by decide) ?_
        exact ih x3 (v3 + 1) _ hf K ls (lv_sub hl [1, 2, 3, 0] rfl)
      have hf := he
      refine lv_if_ne (tgt := 39) hx hb d_Ni_slowness_18 (by decide) (fun hc => ?_) (fun hc => ?_)
      · have hf := op_f hc hf
        obtain rfl := op_i1 hf
        exact K2 ls (lv_sub hl [0, 1, 2, 3] rfl)
      · have hf := op_t hc hf
        refine lv_aload_n hx hb d_Ni_slowness_21 rfl (lv_at hl 0 rfl) ?_
        refine lv_iload_n hx hb d_Ni_slowness_22 rfl (lv_at hl 3 rfl) ?_
        refine lv_aload_n hx hb d_Ni_slowness_23 rfl (lv_at hl 1 rfl) ?_
        obtain ⟨x5, hc4, hf⟩ := op_bind hf
        refine kr_i (C := R_Ni) (rest := []) hx hb hml hown hT qB_bl (qB_to hK hP) (va_recv hK hP (ci := 4) (q0 := 0) rfl rfl) (c_Ni_holds l n tl I R fc dC dI ad cI af v3 _ hc4) (cbW 2 hT cd_Ni_holds rfl rfl ini_Ni ml_Ni_127 hd_Ni_holds ⟨Nat.le_of_ble_eq_true rfl, Nat.le_of_ble_eq_true rfl⟩) im_Ni_holds sp_Ni_holds rfl hl.1 rfl (Nat.le_of_ble_eq_true rfl) d_Ni_slowness_24 ⟨Nat.zero_le _, Nat.zero_le _⟩ ?_
        refine lv_if_eq (tgt := 39) hx hb d_Ni_slowness_27 (by decide) (fun hc => ?_) (fun hc => ?_)
        · have hf := op_t hc hf
          obtain rfl := op_i1 hf
          exact K2 ls (lv_sub hl [0, 1, 2, 3] rfl)
        · have hf := op_f hc hf
          refine lv_iload_n hx hb d_Ni_slowness_30 rfl (lv_at hl 2 rfl) ?_
          refine lv_aload_n hx hb d_Ni_slowness_31 rfl (lv_at hl 0 rfl) ?_
          refine qg_8 hx hb hT hown hK hP fl_Ni_23 d_Ni_slowness_32 ?_
          refine lv_iload_n hx hb d_Ni_slowness_35 rfl (lv_at hl 3 rfl) ?_
          obtain ⟨h6, hf⟩ := op_if hf
          refine qa_8 hx hb hK hP rfl h6 d_Ni_slowness_36 ?_
          refine lv_iadd hx hb d_Ni_slowness_37 ?_
          refine lv_istore_n (lv' := [(2, .int (v2 + ((R 8) v3.toNatClampNeg))), (0, .ref (ad 0)), (1, .ref af), (3, .int v3)]) hx hb d_Ni_slowness_38 rfl hl (by decide) rfl (fun ls hl => ?_)
          obtain rfl := op_i1 hf
          exact K2 ls (lv_sub hl [1, 2, 0, 3] rfl)
def p_Ni_slowness (n : Nat) (tl : Nat) (I : Nat → Int32) (R : Nat → Nat → Int32) (fc : Nat → Int32)   : Option (Int32) := (l_Ni_slowness_4 n tl I R fc n 0 0).bind fun y7 => some y7
set_option maxHeartbeats 4000000 in
theorem c_Ni_slowness (l : Launch) (n : Nat) (tl : Nat) (I : Nat → Int32) (R : Nat → Nat → Int32) (fc : Nat → Int32) (dC : Nat → ClassId) (dI : Nat → Nat → Nat) (ad : Nat → Nat) (cI : ClassId) (af : Nat)    : ROi l y_Ni_slowness b_Ni_slowness 4 (.int) (rL 6) (qB dC dI ad cI af tl I R fc) [.ref (ad 0), .ref af] (p_Ni_slowness n tl I R fc ) := by
  refine en_roi (by decide) (Nat.le_of_ble_eq_true rfl) ?_
  intro z hf p e s m args below meth c ls hx hb hml hown hT hr hlk hB hl
  obtain ⟨hK, hP⟩ := hB
  have hl : lv_has ls 4 [(0, .ref (ad 0)), (1, .ref af)] := hl
  unfold p_Ni_slowness at hf
  refine lv_iconst (v := 0) hx hb d_Ni_slowness_0 (by decide) ?_
  refine lv_istore_n (lv' := [(2, .int 0), (0, .ref (ad 0)), (1, .ref af)]) hx hb d_Ni_slowness_1 rfl hl (by decide) rfl (fun ls hl => ?_)
  refine lv_iconst (v := 0) hx hb d_Ni_slowness_2 (by decide) ?_
  refine lv_istore_n (lv' := [(3, .int 0), (2, .int 0), (0, .ref (ad 0)), (1, .ref af)]) hx hb d_Ni_slowness_3 rfl hl (by decide) rfl (fun ls hl => ?_)
  obtain ⟨y7, he, hf⟩ := op_bind hf
  refine wl_Ni_slowness_4 hx hb hml hown hT hr hlk hK hP n  n 0 0 _ he (fun ls hl => ?_) ls (lv_sub hl [2, 3, 1, 0] rfl)
  refine lv_iload_n hx hb d_Ni_slowness_45 rfl (lv_at hl 0 rfl) ?_
  obtain rfl := op_i1 hf
  exact rt_si hx hb hr hlk rfl d_Ni_slowness_46
theorem hd_Ni_bars : y_Ni_bars.cls ≠ "java/lang/invoke/MethodHandle" ∧ y_Ni_bars.cls ≠ "java/lang/invoke/VarHandle" ∧ (parseMethodDescriptor y_Ni_bars.desc).map (fun d => d.parameters.length) = some 1 := by decide +kernel
theorem d_Ni_bars_0 : decode b_Ni_bars 0 = .ok (.iconst 0, 1) := by decide +kernel
theorem d_Ni_bars_1 : decode b_Ni_bars 1 = .ok (.istore_n 2, 1) := by decide +kernel
theorem d_Ni_bars_2 : decode b_Ni_bars 2 = .ok (.iload_n 2, 1) := by decide +kernel
theorem d_Ni_bars_3 : decode b_Ni_bars 3 = .ok (.aload_n 0, 1) := by decide +kernel
theorem d_Ni_bars_4 : decode b_Ni_bars 4 = .ok (.getfield 72, 3) := by decide +kernel
theorem d_Ni_bars_7 : decode b_Ni_bars 7 = .ok (.if_icmp .ge 30, 3) := by decide +kernel
theorem d_Ni_bars_10 : decode b_Ni_bars 10 = .ok (.aload_n 0, 1) := by decide +kernel
theorem d_Ni_bars_11 : decode b_Ni_bars 11 = .ok (.getfield 19, 3) := by decide +kernel
theorem d_Ni_bars_14 : decode b_Ni_bars 14 = .ok (.iload_n 2, 1) := by decide +kernel
theorem d_Ni_bars_15 : decode b_Ni_bars 15 = .ok (.iaload, 1) := by decide +kernel
theorem d_Ni_bars_16 : decode b_Ni_bars 16 = .ok (.iconst 1, 1) := by decide +kernel
theorem d_Ni_bars_17 : decode b_Ni_bars 17 = .ok (.if_icmp .ne 14, 3) := by decide +kernel
theorem d_Ni_bars_20 : decode b_Ni_bars 20 = .ok (.aload_n 0, 1) := by decide +kernel
theorem d_Ni_bars_21 : decode b_Ni_bars 21 = .ok (.iload_n 2, 1) := by decide +kernel
theorem d_Ni_bars_22 : decode b_Ni_bars 22 = .ok (.aload_n 1, 1) := by decide +kernel
theorem d_Ni_bars_23 : decode b_Ni_bars 23 = .ok (.invokevirtual 127, 3) := by decide +kernel
theorem d_Ni_bars_26 : decode b_Ni_bars 26 = .ok (.ifCond .eq 5, 3) := by decide +kernel
theorem d_Ni_bars_29 : decode b_Ni_bars 29 = .ok (.iconst 1, 1) := by decide +kernel
theorem d_Ni_bars_30 : decode b_Ni_bars 30 = .ok (.ireturn, 1) := by decide +kernel
theorem d_Ni_bars_31 : decode b_Ni_bars 31 = .ok (.iinc 2 1, 3) := by decide +kernel
theorem d_Ni_bars_34 : decode b_Ni_bars 34 = .ok (.goto (-32), 3) := by decide +kernel
theorem d_Ni_bars_37 : decode b_Ni_bars 37 = .ok (.iconst 0, 1) := by decide +kernel
theorem d_Ni_bars_38 : decode b_Ni_bars 38 = .ok (.ireturn, 1) := by decide +kernel
def l_Ni_bars_2 (n : Nat) (tl : Nat) (I : Nat → Int32) (R : Nat → Nat → Int32) (fc : Nat → Int32)    : Nat → Int32 → Option (Int32)
  | 0, _ => none
  | k + 1, v2 => (if (I 10) ≤ v2 then some 0 else if ix v2 10 then (if ((R 7) v2.toNatClampNeg) = 1 then (p_Ni_holds n tl I R fc v2).bind fun x3 => (if x3 = 0 then l_Ni_bars_2 n tl I R fc k (v2 + 1) else some 1) else l_Ni_bars_2 n tl I R fc k (v2 + 1)) else none)
set_option maxHeartbeats 4000000 in
theorem wl_Ni_bars_2  {p : Program} {l : Launch} {e : Env} {s : State} {m : MethodId} {args : Array Value} {below : List Frame} {meth : Method} {c : Code} (hx : p.tables.exec = Jvm.exec) (hb : c.code = b_Ni_bars) (hml : c.maxLocals = 3) (hown : s.vm.findClass "LanternBridge$Night" = some m.cls) (hT : ∀ w ∈ WT, w.before args s = true) (hr : meth.sig.returnType = some .boolean) (hlk : meth.locks = false) {dC : Nat → ClassId} {dI : Nat → Nat → Nat} {ad : Nat → Nat} {cI : ClassId} {af tl : Nat} {I : Nat → Int32} {R : Nat → Nat → Int32} {fc : Nat → Int32} (hK : va_K (dC, dI) CL [(cI, .int)] s) (hP : va_P (dC, dI) CL (qX ad cI tl I R af fc) s.heap) (n : Nat)    : ∀ (k : Nat) (v2 : Int32) (z : Int32), l_Ni_bars_2 n tl I R fc k v2 = some z → ∀ (ls : Array Slot), lv_has ls 3 [(0, .ref (ad 0)), (1, .ref af), (2, .int v2)] → W p l e (rL 6) s m args below meth c s.heap [] 0 0 (MQ below (fun _ st oc t => oc = .returned (some (.int z)) ∧ t.heap = st.heap) args s 0 0 (fun _ => False)) (F0 m 2 ls []) := by
  intro k
  induction k with
  | zero => intro v2 z hf; exact absurd hf (by unfold l_Ni_bars_2; exact fun h9 => by cases h9)
  | succ k ih =>
    intro v2 z hf ls hl
    unfold l_Ni_bars_2 at hf
    refine lv_iload_n hx hb d_Ni_bars_2 rfl (lv_at hl 2 rfl) ?_
    refine lv_aload_n hx hb d_Ni_bars_3 rfl (lv_at hl 0 rfl) ?_
    refine qg_10 hx hb hT hown hK hP fl_Ni_72 d_Ni_bars_4 ?_
    refine lv_icmp_ge (tgt := 37) hx hb d_Ni_bars_7 (by decide) (fun hc => ?_) (fun hc => ?_)
    · have hf := op_t hc hf
      refine lv_iconst (v := 0) hx hb d_Ni_bars_37 (by decide) ?_
      obtain rfl := op_i1 hf
      exact rt_si hx hb hr hlk (by decide) d_Ni_bars_38
    · have hf := op_f hc hf
      refine lv_aload_n hx hb d_Ni_bars_10 rfl (lv_at hl 0 rfl) ?_
      refine qg_7 hx hb hT hown hK hP fl_Ni_19 d_Ni_bars_11 ?_
      refine lv_iload_n hx hb d_Ni_bars_14 rfl (lv_at hl 2 rfl) ?_
      obtain ⟨h1, hf⟩ := op_if hf
      refine qa_7 hx hb hK hP rfl h1 d_Ni_bars_15 ?_
      refine lv_iconst (v := 1) hx hb d_Ni_bars_16 (by decide) ?_
      refine lv_icmp_ne (tgt := 31) hx hb d_Ni_bars_17 (by decide) (fun hc => ?_) (fun hc => ?_)
      · have hf := op_f hc hf
        refine lv_iinc (v := (v2 + 1)) (lv' := [(2, .int (v2 + 1)), (0, .ref (ad 0)), (1, .ref af)]) hx hb d_Ni_bars_31 hl (k := 2) rfl rfl (by decide) rfl (fun ls hl => ?_)
        refine lv_goto (tgt := 2) hx hb d_Ni_bars_34 (by decide) ?_
        exact ih (v2 + 1) _ hf ls (lv_sub hl [1, 2, 0] rfl)
      · have hf := op_t hc hf
        refine lv_aload_n hx hb d_Ni_bars_20 rfl (lv_at hl 0 rfl) ?_
        refine lv_iload_n hx hb d_Ni_bars_21 rfl (lv_at hl 2 rfl) ?_
        refine lv_aload_n hx hb d_Ni_bars_22 rfl (lv_at hl 1 rfl) ?_
        obtain ⟨x3, hc2, hf⟩ := op_bind hf
        refine kr_i (C := R_Ni) (rest := []) hx hb hml hown hT qB_bl (qB_to hK hP) (va_recv hK hP (ci := 4) (q0 := 0) rfl rfl) (c_Ni_holds l n tl I R fc dC dI ad cI af v2 _ hc2) (cbW 2 hT cd_Ni_holds rfl rfl ini_Ni ml_Ni_127 hd_Ni_holds ⟨Nat.le_of_ble_eq_true rfl, Nat.le_of_ble_eq_true rfl⟩) im_Ni_holds sp_Ni_holds rfl hl.1 rfl (Nat.le_of_ble_eq_true rfl) d_Ni_bars_23 ⟨Nat.zero_le _, Nat.zero_le _⟩ ?_
        refine lv_if_eq (tgt := 31) hx hb d_Ni_bars_26 (by decide) (fun hc => ?_) (fun hc => ?_)
        · have hf := op_t hc hf
          refine lv_iinc (v := (v2 + 1)) (lv' := [(2, .int (v2 + 1)), (0, .ref (ad 0)), (1, .ref af)]) hx hb d_Ni_bars_31 hl (k := 2) rfl rfl (by decide) rfl (fun ls hl => ?_)
          refine lv_goto (tgt := 2) hx hb d_Ni_bars_34 (by decide) ?_
          exact ih (v2 + 1) _ hf ls (lv_sub hl [1, 2, 0] rfl)
        · have hf := op_f hc hf
          refine lv_iconst (v := 1) hx hb d_Ni_bars_29 (by decide) ?_
          obtain rfl := op_i1 hf
          exact rt_si hx hb hr hlk (by decide) d_Ni_bars_30
def p_Ni_bars (n : Nat) (tl : Nat) (I : Nat → Int32) (R : Nat → Nat → Int32) (fc : Nat → Int32)   : Option (Int32) := l_Ni_bars_2 n tl I R fc n 0
set_option maxHeartbeats 4000000 in
theorem c_Ni_bars (l : Launch) (n : Nat) (tl : Nat) (I : Nat → Int32) (R : Nat → Nat → Int32) (fc : Nat → Int32) (dC : Nat → ClassId) (dI : Nat → Nat → Nat) (ad : Nat → Nat) (cI : ClassId) (af : Nat)    : ROi l y_Ni_bars b_Ni_bars 3 (.boolean) (rL 6) (qB dC dI ad cI af tl I R fc) [.ref (ad 0), .ref af] (p_Ni_bars n tl I R fc ) := by
  refine en_roi (by decide) (Nat.le_of_ble_eq_true rfl) ?_
  intro z hf p e s m args below meth c ls hx hb hml hown hT hr hlk hB hl
  obtain ⟨hK, hP⟩ := hB
  have hl : lv_has ls 3 [(0, .ref (ad 0)), (1, .ref af)] := hl
  unfold p_Ni_bars at hf
  refine lv_iconst (v := 0) hx hb d_Ni_bars_0 (by decide) ?_
  refine lv_istore_n (lv' := [(2, .int 0), (0, .ref (ad 0)), (1, .ref af)]) hx hb d_Ni_bars_1 rfl hl (by decide) rfl (fun ls hl => ?_)
  exact wl_Ni_bars_2 hx hb hml hown hT hr hlk hK hP n  n 0 _ hf ls (lv_sub hl [1, 2, 0] rfl)
theorem hd_Wa_byKind : y_Wa_byKind.cls ≠ "java/lang/invoke/MethodHandle" ∧ y_Wa_byKind.cls ≠ "java/lang/invoke/VarHandle" ∧ (parseMethodDescriptor y_Wa_byKind.desc).map (fun d => d.parameters.length) = some 4 := by decide +kernel
theorem d_Wa_byKind_0 : decode b_Wa_byKind 0 = .ok (.iload_n 1, 1) := by decide +kernel
theorem d_Wa_byKind_1 : decode b_Wa_byKind 1 = .ok (.ireturn, 1) := by decide +kernel
def p_Wa_byKind (n : Nat) (ci : Nat) (d : Nat → Int32) (v1 : Int32) (v2 : Int32) (v3 : Int32) (v4 : Int32)  : Option (Int32) := some v1
set_option maxHeartbeats 4000000 in
theorem c_Wa_byKind (l : Launch) (n : Nat) (ci : Nat) (d : Nat → Int32) (dC : Nat → ClassId) (dI : Nat → Nat → Nat) (a : Nat) (hci : ci ∈ wcl) (v1 : Int32) (v2 : Int32) (v3 : Int32) (v4 : Int32)   : ROi l y_Wa_byKind b_Wa_byKind 5 (.int) (rL 5) (kB dC dI a ci d) [.ref a, .int v1, .int v2, .int v3, .int v4] (p_Wa_byKind n ci d v1 v2 v3 v4 ) := by
  refine en_roi (by decide) (Nat.le_of_ble_eq_true rfl) ?_
  intro z hf p e s m args below meth c ls hx hb hml hown hT hr hlk hB hl
  obtain ⟨hK, hw, hi⟩ := hB
  have hl : lv_has ls 5 [(0, .ref a), (1, .int v1), (2, .int v2), (3, .int v3), (4, .int v4)] := hl
  unfold p_Wa_byKind at hf
  refine lv_iload_n hx hb d_Wa_byKind_0 rfl (lv_at hl 1 rfl) ?_
  obtain rfl := op_i1 hf
  exact rt_si hx hb hr hlk rfl d_Wa_byKind_1
theorem hd_Qu_byKind : y_Qu_byKind.cls ≠ "java/lang/invoke/MethodHandle" ∧ y_Qu_byKind.cls ≠ "java/lang/invoke/VarHandle" ∧ (parseMethodDescriptor y_Qu_byKind.desc).map (fun d => d.parameters.length) = some 4 := by decide +kernel
theorem d_Qu_byKind_0 : decode b_Qu_byKind 0 = .ok (.iload_n 2, 1) := by decide +kernel
theorem d_Qu_byKind_1 : decode b_Qu_byKind 1 = .ok (.ifCond .ne 12, 3) := by decide +kernel
theorem d_Qu_byKind_4 : decode b_Qu_byKind 4 = .ok (.iload_n 1, 1) := by decide +kernel
theorem d_Qu_byKind_5 : decode b_Qu_byKind 5 = .ok (.aload_n 0, 1) := by decide +kernel
theorem d_Qu_byKind_6 : decode b_Qu_byKind 6 = .ok (.getfield 7, 3) := by decide +kernel
theorem d_Qu_byKind_9 : decode b_Qu_byKind 9 = .ok (.isub, 1) := by decide +kernel
theorem d_Qu_byKind_10 : decode b_Qu_byKind 10 = .ok (.goto 4, 3) := by decide +kernel
theorem d_Qu_byKind_13 : decode b_Qu_byKind 13 = .ok (.iload_n 1, 1) := by decide +kernel
theorem d_Qu_byKind_14 : decode b_Qu_byKind 14 = .ok (.ireturn, 1) := by decide +kernel
def p_Qu_byKind (n : Nat) (ci : Nat) (d : Nat → Int32) (v1 : Int32) (v2 : Int32) (v3 : Int32) (v4 : Int32)  : Option (Int32) := (if v2 = 0 then some (v1 - (d 2)) else some v1 : Option (Int32)).bind fun x2 => some x2
set_option maxHeartbeats 4000000 in
theorem c_Qu_byKind (l : Launch) (n : Nat) (ci : Nat) (d : Nat → Int32) (dC : Nat → ClassId) (dI : Nat → Nat → Nat) (a : Nat) (hci : ci ∈ wcl) (v1 : Int32) (v2 : Int32) (v3 : Int32) (v4 : Int32)   : ROi l y_Qu_byKind b_Qu_byKind 5 (.int) (rL 5) (kB dC dI a ci d) [.ref a, .int v1, .int v2, .int v3, .int v4] (p_Qu_byKind n ci d v1 v2 v3 v4 ) := by
  refine en_roi (by decide) (Nat.le_of_ble_eq_true rfl) ?_
  intro z hf p e s m args below meth c ls hx hb hml hown hT hr hlk hB hl
  obtain ⟨hK, hw, hi⟩ := hB
  have hl : lv_has ls 5 [(0, .ref a), (1, .int v1), (2, .int v2), (3, .int v3), (4, .int v4)] := hl
  unfold p_Qu_byKind at hf
  refine lv_iload_n hx hb d_Qu_byKind_0 rfl (lv_at hl 2 rfl) ?_
  obtain ⟨x2, he, hf⟩ := op_bind hf
  have K1 : ∀ (ls : Array Slot), lv_has ls 5 [] → W p l e (rL 5) s m args below meth c s.heap [] 0 0 (MQ below (fun _ st oc t => oc = .returned (some (.int z)) ∧ t.heap = st.heap) args s 0 0 (fun _ => False)) (F0 m 14 ls [.int x2]) := by
    intro ls hl
    obtain rfl := op_i1 hf
    exact rt_si hx hb hr hlk rfl d_Qu_byKind_14
  have hf := he
  refine lv_if_ne (tgt := 13) hx hb d_Qu_byKind_1 (by decide) (fun hc => ?_) (fun hc => ?_)
  · have hf := op_f hc hf
    refine lv_iload_n hx hb d_Qu_byKind_13 rfl (lv_at hl 1 rfl) ?_
    obtain rfl := op_i1 hf
    exact K1 ls (lv_sub hl [] rfl)
  · have hf := op_t hc hf
    refine lv_iload_n hx hb d_Qu_byKind_4 rfl (lv_at hl 1 rfl) ?_
    refine lv_aload_n hx hb d_Qu_byKind_5 rfl (lv_at hl 0 rfl) ?_
    refine wg_2 hx hb hT hown hK hci hw fl_Qu_7 (u_same (hT _ w2_193)) d_Qu_byKind_6 ?_
    refine lv_isub hx hb d_Qu_byKind_9 ?_
    refine lv_goto (tgt := 14) hx hb d_Qu_byKind_10 (by decide) ?_
    obtain rfl := op_i1 hf
    exact K1 ls (lv_sub hl [] rfl)
theorem hd_La_byKind : y_La_byKind.cls ≠ "java/lang/invoke/MethodHandle" ∧ y_La_byKind.cls ≠ "java/lang/invoke/VarHandle" ∧ (parseMethodDescriptor y_La_byKind.desc).map (fun d => d.parameters.length) = some 4 := by decide +kernel
theorem d_La_byKind_0 : decode b_La_byKind 0 = .ok (.iload_n 3, 1) := by decide +kernel
theorem d_La_byKind_1 : decode b_La_byKind 1 = .ok (.ifCond .eq 7, 3) := by decide +kernel
theorem d_La_byKind_4 : decode b_La_byKind 4 = .ok (.iload_n 1, 1) := by decide +kernel
theorem d_La_byKind_5 : decode b_La_byKind 5 = .ok (.goto 9, 3) := by decide +kernel
theorem d_La_byKind_8 : decode b_La_byKind 8 = .ok (.iload_n 1, 1) := by decide +kernel
theorem d_La_byKind_9 : decode b_La_byKind 9 = .ok (.aload_n 0, 1) := by decide +kernel
theorem d_La_byKind_10 : decode b_La_byKind 10 = .ok (.getfield 7, 3) := by decide +kernel
theorem d_La_byKind_13 : decode b_La_byKind 13 = .ok (.iadd, 1) := by decide +kernel
theorem d_La_byKind_14 : decode b_La_byKind 14 = .ok (.ireturn, 1) := by decide +kernel
def p_La_byKind (n : Nat) (ci : Nat) (d : Nat → Int32) (v1 : Int32) (v2 : Int32) (v3 : Int32) (v4 : Int32)  : Option (Int32) := (if v3 = 0 then some (v1 + (d 2)) else some v1 : Option (Int32)).bind fun x2 => some x2
set_option maxHeartbeats 4000000 in
theorem c_La_byKind (l : Launch) (n : Nat) (ci : Nat) (d : Nat → Int32) (dC : Nat → ClassId) (dI : Nat → Nat → Nat) (a : Nat) (hci : ci ∈ wcl) (v1 : Int32) (v2 : Int32) (v3 : Int32) (v4 : Int32)   : ROi l y_La_byKind b_La_byKind 5 (.int) (rL 5) (kB dC dI a ci d) [.ref a, .int v1, .int v2, .int v3, .int v4] (p_La_byKind n ci d v1 v2 v3 v4 ) := by
  refine en_roi (by decide) (Nat.le_of_ble_eq_true rfl) ?_
  intro z hf p e s m args below meth c ls hx hb hml hown hT hr hlk hB hl
  obtain ⟨hK, hw, hi⟩ := hB
  have hl : lv_has ls 5 [(0, .ref a), (1, .int v1), (2, .int v2), (3, .int v3), (4, .int v4)] := hl
  unfold p_La_byKind at hf
  refine lv_iload_n hx hb d_La_byKind_0 rfl (lv_at hl 3 rfl) ?_
  obtain ⟨x2, he, hf⟩ := op_bind hf
  have K1 : ∀ (ls : Array Slot), lv_has ls 5 [] → W p l e (rL 5) s m args below meth c s.heap [] 0 0 (MQ below (fun _ st oc t => oc = .returned (some (.int z)) ∧ t.heap = st.heap) args s 0 0 (fun _ => False)) (F0 m 14 ls [.int x2]) := by
    intro ls hl
    obtain rfl := op_i1 hf
    exact rt_si hx hb hr hlk rfl d_La_byKind_14
  have hf := he
  refine lv_if_eq (tgt := 8) hx hb d_La_byKind_1 (by decide) (fun hc => ?_) (fun hc => ?_)
  · have hf := op_t hc hf
    refine lv_iload_n hx hb d_La_byKind_8 rfl (lv_at hl 1 rfl) ?_
    refine lv_aload_n hx hb d_La_byKind_9 rfl (lv_at hl 0 rfl) ?_
    refine wg_2 hx hb hT hown hK hci hw fl_La_7 (u_same (hT _ w2_195)) d_La_byKind_10 ?_
    refine lv_iadd hx hb d_La_byKind_13 ?_
    obtain rfl := op_i1 hf
    exact K1 ls (lv_sub hl [] rfl)
  · have hf := op_f hc hf
    refine lv_iload_n hx hb d_La_byKind_4 rfl (lv_at hl 1 rfl) ?_
    refine lv_goto (tgt := 14) hx hb d_La_byKind_5 (by decide) ?_
    obtain rfl := op_i1 hf
    exact K1 ls (lv_sub hl [] rfl)
theorem hd_Ti_byKind : y_Ti_byKind.cls ≠ "java/lang/invoke/MethodHandle" ∧ y_Ti_byKind.cls ≠ "java/lang/invoke/VarHandle" ∧ (parseMethodDescriptor y_Ti_byKind.desc).map (fun d => d.parameters.length) = some 4 := by decide +kernel
theorem d_Ti_byKind_0 : decode b_Ti_byKind 0 = .ok (.iconst 1, 1) := by decide +kernel
theorem d_Ti_byKind_1 : decode b_Ti_byKind 1 = .ok (.aload_n 0, 1) := by decide +kernel
theorem d_Ti_byKind_2 : decode b_Ti_byKind 2 = .ok (.getfield 7, 3) := by decide +kernel
theorem d_Ti_byKind_5 : decode b_Ti_byKind 5 = .ok (.ishl, 1) := by decide +kernel
theorem d_Ti_byKind_6 : decode b_Ti_byKind 6 = .ok (.istore 5, 2) := by decide +kernel
theorem d_Ti_byKind_8 : decode b_Ti_byKind 8 = .ok (.iload 5, 2) := by decide +kernel
theorem d_Ti_byKind_10 : decode b_Ti_byKind 10 = .ok (.iconst 1, 1) := by decide +kernel
theorem d_Ti_byKind_11 : decode b_Ti_byKind 11 = .ok (.ishl, 1) := by decide +kernel
theorem d_Ti_byKind_12 : decode b_Ti_byKind 12 = .ok (.iload 5, 2) := by decide +kernel
theorem d_Ti_byKind_14 : decode b_Ti_byKind 14 = .ok (.iconst 1, 1) := by decide +kernel
theorem d_Ti_byKind_15 : decode b_Ti_byKind 15 = .ok (.ishr, 1) := by decide +kernel
theorem d_Ti_byKind_16 : decode b_Ti_byKind 16 = .ok (.ior, 1) := by decide +kernel
theorem d_Ti_byKind_17 : decode b_Ti_byKind 17 = .ok (.istore 6, 2) := by decide +kernel
theorem d_Ti_byKind_19 : decode b_Ti_byKind 19 = .ok (.iload_n 2, 1) := by decide +kernel
theorem d_Ti_byKind_20 : decode b_Ti_byKind 20 = .ok (.iload 6, 2) := by decide +kernel
theorem d_Ti_byKind_22 : decode b_Ti_byKind 22 = .ok (.iand, 1) := by decide +kernel
theorem d_Ti_byKind_23 : decode b_Ti_byKind 23 = .ok (.ifCond .ne 12, 3) := by decide +kernel
theorem d_Ti_byKind_26 : decode b_Ti_byKind 26 = .ok (.iload_n 1, 1) := by decide +kernel
theorem d_Ti_byKind_27 : decode b_Ti_byKind 27 = .ok (.aload_n 0, 1) := by decide +kernel
theorem d_Ti_byKind_28 : decode b_Ti_byKind 28 = .ok (.getfield 13, 3) := by decide +kernel
theorem d_Ti_byKind_31 : decode b_Ti_byKind 31 = .ok (.iadd, 1) := by decide +kernel
theorem d_Ti_byKind_32 : decode b_Ti_byKind 32 = .ok (.goto 4, 3) := by decide +kernel
theorem d_Ti_byKind_35 : decode b_Ti_byKind 35 = .ok (.iload_n 1, 1) := by decide +kernel
theorem d_Ti_byKind_36 : decode b_Ti_byKind 36 = .ok (.ireturn, 1) := by decide +kernel
def p_Ti_byKind (n : Nat) (ci : Nat) (d : Nat → Int32) (v1 : Int32) (v2 : Int32) (v3 : Int32) (v4 : Int32)  : Option (Int32) := (if (v2 &&& (((1 <<< ((d 1) &&& 31)) <<< (1 &&& 31)) ||| ((1 <<< ((d 1) &&& 31)) >>> (1 &&& 31)))) = 0 then some (v1 + (d 2)) else some v1 : Option (Int32)).bind fun x2 => some x2
set_option maxHeartbeats 4000000 in
theorem c_Ti_byKind (l : Launch) (n : Nat) (ci : Nat) (d : Nat → Int32) (dC : Nat → ClassId) (dI : Nat → Nat → Nat) (a : Nat) (hci : ci ∈ wcl) (v1 : Int32) (v2 : Int32) (v3 : Int32) (v4 : Int32)   : ROi l y_Ti_byKind b_Ti_byKind 7 (.int) (rL 5) (kB dC dI a ci d) [.ref a, .int v1, .int v2, .int v3, .int v4] (p_Ti_byKind n ci d v1 v2 v3 v4 ) := by
  refine en_roi (by decide) (Nat.le_of_ble_eq_true rfl) ?_
  intro z hf p e s m args below meth c ls hx hb hml hown hT hr hlk hB hl
  obtain ⟨hK, hw, hi⟩ := hB
  have hl : lv_has ls 7 [(0, .ref a), (1, .int v1), (2, .int v2), (3, .int v3), (4, .int v4)] := hl
  unfold p_Ti_byKind at hf
  refine lv_iconst (v := 1) hx hb d_Ti_byKind_0 (by decide) ?_
  refine lv_aload_n hx hb d_Ti_byKind_1 rfl (lv_at hl 0 rfl) ?_
  refine wg_1 hx hb hT hown hK hci hw fl_Ti_7 (u_same (hT _ w2_186)) d_Ti_byKind_2 ?_
  refine lv_ishl hx hb d_Ti_byKind_5 ?_
  refine lv_istore (lv' := [(5, .int (1 <<< ((d 1) &&& 31))), (0, .ref a), (1, .int v1), (2, .int v2), (3, .int v3), (4, .int v4)]) hx hb d_Ti_byKind_6 hl (by decide) rfl (fun ls hl => ?_)
  refine lv_iload hx hb d_Ti_byKind_8 (lv_at hl 0 rfl) ?_
  refine lv_iconst (v := 1) hx hb d_Ti_byKind_10 (by decide) ?_
  refine lv_ishl hx hb d_Ti_byKind_11 ?_
  refine lv_iload hx hb d_Ti_byKind_12 (lv_at hl 0 rfl) ?_
  refine lv_iconst (v := 1) hx hb d_Ti_byKind_14 (by decide) ?_
  refine lv_ishr hx hb d_Ti_byKind_15 ?_
  refine lv_ior hx hb d_Ti_byKind_16 ?_
  refine lv_istore (lv' := [(6, .int (((1 <<< ((d 1) &&& 31)) <<< (1 &&& 31)) ||| ((1 <<< ((d 1) &&& 31)) >>> (1 &&& 31)))), (5, .int (1 <<< ((d 1) &&& 31))), (0, .ref a), (1, .int v1), (2, .int v2), (3, .int v3), (4, .int v4)]) hx hb d_Ti_byKind_17 hl (by decide) rfl (fun ls hl => ?_)
  refine lv_iload_n hx hb d_Ti_byKind_19 rfl (lv_at hl 4 rfl) ?_
  refine lv_iload hx hb d_Ti_byKind_20 (lv_at hl 0 rfl) ?_
  refine lv_iand hx hb d_Ti_byKind_22 ?_
  obtain ⟨x2, he, hf⟩ := op_bind hf
  have K1 : ∀ (ls : Array Slot), lv_has ls 7 [] → W p l e (rL 5) s m args below meth c s.heap [] 0 0 (MQ below (fun _ st oc t => oc = .returned (some (.int z)) ∧ t.heap = st.heap) args s 0 0 (fun _ => False)) (F0 m 36 ls [.int x2]) := by
    intro ls hl
    obtain rfl := op_i1 hf
    exact rt_si hx hb hr hlk rfl d_Ti_byKind_36
  have hf := he
  refine lv_if_ne (tgt := 35) hx hb d_Ti_byKind_23 (by decide) (fun hc => ?_) (fun hc => ?_)
  · have hf := op_f hc hf
    refine lv_iload_n hx hb d_Ti_byKind_35 rfl (lv_at hl 3 rfl) ?_
    obtain rfl := op_i1 hf
    exact K1 ls (lv_sub hl [] rfl)
  · have hf := op_t hc hf
    refine lv_iload_n hx hb d_Ti_byKind_26 rfl (lv_at hl 3 rfl) ?_
    refine lv_aload_n hx hb d_Ti_byKind_27 rfl (lv_at hl 2 rfl) ?_
    refine wg_2 hx hb hT hown hK hci hw fl_Ti_13 (u_same (hT _ w2_199)) d_Ti_byKind_28 ?_
    refine lv_iadd hx hb d_Ti_byKind_31 ?_
    refine lv_goto (tgt := 36) hx hb d_Ti_byKind_32 (by decide) ?_
    obtain rfl := op_i1 hf
    exact K1 ls (lv_sub hl [] rfl)
theorem hd_Ca_byKind : y_Ca_byKind.cls ≠ "java/lang/invoke/MethodHandle" ∧ y_Ca_byKind.cls ≠ "java/lang/invoke/VarHandle" ∧ (parseMethodDescriptor y_Ca_byKind.desc).map (fun d => d.parameters.length) = some 4 := by decide +kernel
theorem d_Ca_byKind_0 : decode b_Ca_byKind 0 = .ok (.aload_n 0, 1) := by decide +kernel
theorem d_Ca_byKind_1 : decode b_Ca_byKind 1 = .ok (.iload_n 1, 1) := by decide +kernel
theorem d_Ca_byKind_2 : decode b_Ca_byKind 2 = .ok (.iload_n 2, 1) := by decide +kernel
theorem d_Ca_byKind_3 : decode b_Ca_byKind 3 = .ok (.iload_n 3, 1) := by decide +kernel
theorem d_Ca_byKind_4 : decode b_Ca_byKind 4 = .ok (.iload 4, 2) := by decide +kernel
theorem d_Ca_byKind_6 : decode b_Ca_byKind 6 = .ok (.invokespecial 7, 3) := by decide +kernel
theorem d_Ca_byKind_9 : decode b_Ca_byKind 9 = .ok (.istore 5, 2) := by decide +kernel
theorem d_Ca_byKind_11 : decode b_Ca_byKind 11 = .ok (.iload_n 2, 1) := by decide +kernel
theorem d_Ca_byKind_12 : decode b_Ca_byKind 12 = .ok (.ifCond .ne 8, 3) := by decide +kernel
theorem d_Ca_byKind_15 : decode b_Ca_byKind 15 = .ok (.iload 5, 2) := by decide +kernel
theorem d_Ca_byKind_17 : decode b_Ca_byKind 17 = .ok (.goto 9, 3) := by decide +kernel
theorem d_Ca_byKind_20 : decode b_Ca_byKind 20 = .ok (.iload 5, 2) := by decide +kernel
theorem d_Ca_byKind_22 : decode b_Ca_byKind 22 = .ok (.iconst 1, 1) := by decide +kernel
theorem d_Ca_byKind_23 : decode b_Ca_byKind 23 = .ok (.iadd, 1) := by decide +kernel
theorem d_Ca_byKind_24 : decode b_Ca_byKind 24 = .ok (.iconst 2, 1) := by decide +kernel
theorem d_Ca_byKind_25 : decode b_Ca_byKind 25 = .ok (.idiv, 1) := by decide +kernel
theorem d_Ca_byKind_26 : decode b_Ca_byKind 26 = .ok (.ireturn, 1) := by decide +kernel
def p_Ca_byKind (n : Nat) (ci : Nat) (d : Nat → Int32) (v1 : Int32) (v2 : Int32) (v3 : Int32) (v4 : Int32)  : Option (Int32) := (p_La_byKind n ci d v1 v2 v3 v4).bind fun x2 => (if v2 = 0 then some x2 else some ((x2 + 1) / 2) : Option (Int32)).bind fun x4 => some x4
set_option maxHeartbeats 4000000 in
theorem c_Ca_byKind (l : Launch) (n : Nat) (ci : Nat) (d : Nat → Int32) (dC : Nat → ClassId) (dI : Nat → Nat → Nat) (a : Nat) (hci : ci ∈ wcl) (v1 : Int32) (v2 : Int32) (v3 : Int32) (v4 : Int32)   : ROi l y_Ca_byKind b_Ca_byKind 6 (.int) (rL 6) (kB dC dI a ci d) [.ref a, .int v1, .int v2, .int v3, .int v4] (p_Ca_byKind n ci d v1 v2 v3 v4 ) := by
  refine en_roi (by decide) (Nat.le_of_ble_eq_true rfl) ?_
  intro z hf p e s m args below meth c ls hx hb hml hown hT hr hlk hB hl
  obtain ⟨hK, hw, hi⟩ := hB
  have hl : lv_has ls 6 [(0, .ref a), (1, .int v1), (2, .int v2), (3, .int v3), (4, .int v4)] := hl
  unfold p_Ca_byKind at hf
  refine lv_aload_n hx hb d_Ca_byKind_0 rfl (lv_at hl 0 rfl) ?_
  refine lv_iload_n hx hb d_Ca_byKind_1 rfl (lv_at hl 1 rfl) ?_
  refine lv_iload_n hx hb d_Ca_byKind_2 rfl (lv_at hl 2 rfl) ?_
  refine lv_iload_n hx hb d_Ca_byKind_3 rfl (lv_at hl 3 rfl) ?_
  refine lv_iload hx hb d_Ca_byKind_4 (lv_at hl 4 rfl) ?_
  obtain ⟨x2, hc1, hf⟩ := op_bind hf
  obtain ⟨cC, hat⟩ := w_classAt hK hci
  refine kr_su (rest := []) hat hx hb hml hown hT kB_bl (kB_to hK hw hi) (wrc hK hci hw) (c_La_byKind l n ci d dC dI a hci v1 v2 v3 v4 _ hc1) (va_cwSU 4 hT (goodS ml_Ca_7 w6_100 su_Ca_La im_La_byKind ini_La cd_La_byKind) rfl rfl rfl (by decide +kernel) ⟨Nat.le_of_ble_eq_true rfl, Nat.le_of_ble_eq_true rfl⟩) rfl hl.1 rfl (Nat.le_of_ble_eq_true rfl) d_Ca_byKind_6 ⟨Nat.zero_le _, Nat.zero_le _⟩ ?_
  refine lv_istore (lv' := [(5, .int x2), (0, .ref a), (1, .int v1), (2, .int v2), (3, .int v3), (4, .int v4)]) hx hb d_Ca_byKind_9 hl (by decide) rfl (fun ls hl => ?_)
  refine lv_iload_n hx hb d_Ca_byKind_11 rfl (lv_at hl 3 rfl) ?_
  obtain ⟨x4, he, hf⟩ := op_bind hf
  have K3 : ∀ (ls : Array Slot), lv_has ls 6 [] → W p l e (rL 6) s m args below meth c s.heap [] 0 0 (MQ below (fun _ st oc t => oc = .returned (some (.int z)) ∧ t.heap = st.heap) args s 0 0 (fun _ => False)) (F0 m 26 ls [.int x4]) := by
    intro ls hl
    obtain rfl := op_i1 hf
    exact rt_si hx hb hr hlk rfl d_Ca_byKind_26
  have hf := he
  refine lv_if_ne (tgt := 20) hx hb d_Ca_byKind_12 (by decide) (fun hc => ?_) (fun hc => ?_)
  · have hf := op_f hc hf
    refine lv_iload hx hb d_Ca_byKind_20 (lv_at hl 0 rfl) ?_
    refine lv_iconst (v := 1) hx hb d_Ca_byKind_22 (by decide) ?_
    refine lv_iadd hx hb d_Ca_byKind_23 ?_
    refine lv_iconst (v := 2) hx hb d_Ca_byKind_24 (by decide) ?_
    refine lv_idiv hx hb d_Ca_byKind_25 (by decide) ?_
    obtain rfl := op_i1 hf
    exact K3 ls (lv_sub hl [] rfl)
  · have hf := op_t hc hf
    refine lv_iload hx hb d_Ca_byKind_15 (lv_at hl 0 rfl) ?_
    refine lv_goto (tgt := 26) hx hb d_Ca_byKind_17 (by decide) ?_
    obtain rfl := op_i1 hf
    exact K3 ls (lv_sub hl [] rfl)
theorem hd_Tr_byKind : y_Tr_byKind.cls ≠ "java/lang/invoke/MethodHandle" ∧ y_Tr_byKind.cls ≠ "java/lang/invoke/VarHandle" ∧ (parseMethodDescriptor y_Tr_byKind.desc).map (fun d => d.parameters.length) = some 4 := by decide +kernel
theorem d_Tr_byKind_0 : decode b_Tr_byKind 0 = .ok (.aload_n 0, 1) := by decide +kernel
theorem d_Tr_byKind_1 : decode b_Tr_byKind 1 = .ok (.iload_n 1, 1) := by decide +kernel
theorem d_Tr_byKind_2 : decode b_Tr_byKind 2 = .ok (.iload_n 2, 1) := by decide +kernel
theorem d_Tr_byKind_3 : decode b_Tr_byKind 3 = .ok (.iload_n 3, 1) := by decide +kernel
theorem d_Tr_byKind_4 : decode b_Tr_byKind 4 = .ok (.iload 4, 2) := by decide +kernel
theorem d_Tr_byKind_6 : decode b_Tr_byKind 6 = .ok (.invokespecial 9, 3) := by decide +kernel
theorem d_Tr_byKind_9 : decode b_Tr_byKind 9 = .ok (.istore 5, 2) := by decide +kernel
theorem d_Tr_byKind_11 : decode b_Tr_byKind 11 = .ok (.iload 4, 2) := by decide +kernel
theorem d_Tr_byKind_13 : decode b_Tr_byKind 13 = .ok (.iconst 1, 1) := by decide +kernel
theorem d_Tr_byKind_14 : decode b_Tr_byKind 14 = .ok (.if_icmp .ne 13, 3) := by decide +kernel
theorem d_Tr_byKind_17 : decode b_Tr_byKind 17 = .ok (.iload 5, 2) := by decide +kernel
theorem d_Tr_byKind_19 : decode b_Tr_byKind 19 = .ok (.aload_n 0, 1) := by decide +kernel
theorem d_Tr_byKind_20 : decode b_Tr_byKind 20 = .ok (.getfield 13, 3) := by decide +kernel
theorem d_Tr_byKind_23 : decode b_Tr_byKind 23 = .ok (.iadd, 1) := by decide +kernel
theorem d_Tr_byKind_24 : decode b_Tr_byKind 24 = .ok (.goto 5, 3) := by decide +kernel
theorem d_Tr_byKind_27 : decode b_Tr_byKind 27 = .ok (.iload 5, 2) := by decide +kernel
theorem d_Tr_byKind_29 : decode b_Tr_byKind 29 = .ok (.ireturn, 1) := by decide +kernel
def p_Tr_byKind (n : Nat) (ci : Nat) (d : Nat → Int32) (v1 : Int32) (v2 : Int32) (v3 : Int32) (v4 : Int32)  : Option (Int32) := (p_Ti_byKind n ci d v1 v2 v3 v4).bind fun x2 => (if v4 = 1 then some (x2 + (d 2)) else some x2 : Option (Int32)).bind fun x4 => some x4
set_option maxHeartbeats 4000000 in
theorem c_Tr_byKind (l : Launch) (n : Nat) (ci : Nat) (d : Nat → Int32) (dC : Nat → ClassId) (dI : Nat → Nat → Nat) (a : Nat) (hci : ci ∈ wcl) (v1 : Int32) (v2 : Int32) (v3 : Int32) (v4 : Int32)   : ROi l y_Tr_byKind b_Tr_byKind 6 (.int) (rL 6) (kB dC dI a ci d) [.ref a, .int v1, .int v2, .int v3, .int v4] (p_Tr_byKind n ci d v1 v2 v3 v4 ) := by
  refine en_roi (by decide) (Nat.le_of_ble_eq_true rfl) ?_
  intro z hf p e s m args below meth c ls hx hb hml hown hT hr hlk hB hl
  obtain ⟨hK, hw, hi⟩ := hB
  have hl : lv_has ls 6 [(0, .ref a), (1, .int v1), (2, .int v2), (3, .int v3), (4, .int v4)] := hl
  unfold p_Tr_byKind at hf
  refine lv_aload_n hx hb d_Tr_byKind_0 rfl (lv_at hl 0 rfl) ?_
  refine lv_iload_n hx hb d_Tr_byKind_1 rfl (lv_at hl 1 rfl) ?_
  refine lv_iload_n hx hb d_Tr_byKind_2 rfl (lv_at hl 2 rfl) ?_
  refine lv_iload_n hx hb d_Tr_byKind_3 rfl (lv_at hl 3 rfl) ?_
  refine lv_iload hx hb d_Tr_byKind_4 (lv_at hl 4 rfl) ?_
  obtain ⟨x2, hc1, hf⟩ := op_bind hf
  obtain ⟨cC, hat⟩ := w_classAt hK hci
  refine kr_su (rest := []) hat hx hb hml hown hT kB_bl (kB_to hK hw hi) (wrc hK hci hw) (c_Ti_byKind l n ci d dC dI a hci v1 v2 v3 v4 _ hc1) (va_cwSU 4 hT (goodS ml_Tr_9 w6_101 su_Tr_Ti im_Ti_byKind ini_Ti cd_Ti_byKind) rfl rfl rfl (by decide +kernel) ⟨Nat.le_of_ble_eq_true rfl, Nat.le_of_ble_eq_true rfl⟩) rfl hl.1 rfl (Nat.le_of_ble_eq_true rfl) d_Tr_byKind_6 ⟨Nat.zero_le _, Nat.zero_le _⟩ ?_
  refine lv_istore (lv' := [(5, .int x2), (0, .ref a), (1, .int v1), (2, .int v2), (3, .int v3), (4, .int v4)]) hx hb d_Tr_byKind_9 hl (by decide) rfl (fun ls hl => ?_)
  refine lv_iload hx hb d_Tr_byKind_11 (lv_at hl 5 rfl) ?_
  refine lv_iconst (v := 1) hx hb d_Tr_byKind_13 (by decide) ?_
  obtain ⟨x4, he, hf⟩ := op_bind hf
  have K3 : ∀ (ls : Array Slot), lv_has ls 6 [] → W p l e (rL 6) s m args below meth c s.heap [] 0 0 (MQ below (fun _ st oc t => oc = .returned (some (.int z)) ∧ t.heap = st.heap) args s 0 0 (fun _ => False)) (F0 m 29 ls [.int x4]) := by
    intro ls hl
    obtain rfl := op_i1 hf
    exact rt_si hx hb hr hlk rfl d_Tr_byKind_29
  have hf := he
  refine lv_icmp_ne (tgt := 27) hx hb d_Tr_byKind_14 (by decide) (fun hc => ?_) (fun hc => ?_)
  · have hf := op_f hc hf
    refine lv_iload hx hb d_Tr_byKind_27 (lv_at hl 0 rfl) ?_
    obtain rfl := op_i1 hf
    exact K3 ls (lv_sub hl [] rfl)
  · have hf := op_t hc hf
    refine lv_iload hx hb d_Tr_byKind_17 (lv_at hl 0 rfl) ?_
    refine lv_aload_n hx hb d_Tr_byKind_19 rfl (lv_at hl 1 rfl) ?_
    refine wg_2 hx hb hT hown hK hci hw fl_Tr_13 (u_same (hT _ w2_197)) d_Tr_byKind_20 ?_
    refine lv_iadd hx hb d_Tr_byKind_23 ?_
    refine lv_goto (tgt := 29) hx hb d_Tr_byKind_24 (by decide) ?_
    obtain rfl := op_i1 hf
    exact K3 ls (lv_sub hl [] rfl)
theorem hd_Wa_isUnder : y_Wa_isUnder.cls ≠ "java/lang/invoke/MethodHandle" ∧ y_Wa_isUnder.cls ≠ "java/lang/invoke/VarHandle" ∧ (parseMethodDescriptor y_Wa_isUnder.desc).map (fun d => d.parameters.length) = some 1 := by decide +kernel
theorem d_Wa_isUnder_0 : decode b_Wa_isUnder 0 = .ok (.iload_n 1, 1) := by decide +kernel
theorem d_Wa_isUnder_1 : decode b_Wa_isUnder 1 = .ok (.tableswitch 75 0 6 #[43, 45, 50, 55, 60, 65, 70], 43) := by decide +kernel
theorem d_Wa_isUnder_44 : decode b_Wa_isUnder 44 = .ok (.iconst 1, 1) := by decide +kernel
theorem d_Wa_isUnder_45 : decode b_Wa_isUnder 45 = .ok (.ireturn, 1) := by decide +kernel
theorem d_Wa_isUnder_46 : decode b_Wa_isUnder 46 = .ok (.aload_n 0, 1) := by decide +kernel
theorem d_Wa_isUnder_47 : decode b_Wa_isUnder 47 = .ok (.instanceof 25, 3) := by decide +kernel
theorem d_Wa_isUnder_50 : decode b_Wa_isUnder 50 = .ok (.ireturn, 1) := by decide +kernel
theorem d_Wa_isUnder_51 : decode b_Wa_isUnder 51 = .ok (.aload_n 0, 1) := by decide +kernel
theorem d_Wa_isUnder_52 : decode b_Wa_isUnder 52 = .ok (.instanceof 30, 3) := by decide +kernel
theorem d_Wa_isUnder_55 : decode b_Wa_isUnder 55 = .ok (.ireturn, 1) := by decide +kernel
theorem d_Wa_isUnder_56 : decode b_Wa_isUnder 56 = .ok (.aload_n 0, 1) := by decide +kernel
theorem d_Wa_isUnder_57 : decode b_Wa_isUnder 57 = .ok (.instanceof 33, 3) := by decide +kernel
theorem d_Wa_isUnder_60 : decode b_Wa_isUnder 60 = .ok (.ireturn, 1) := by decide +kernel
theorem d_Wa_isUnder_61 : decode b_Wa_isUnder 61 = .ok (.aload_n 0, 1) := by decide +kernel
theorem d_Wa_isUnder_62 : decode b_Wa_isUnder 62 = .ok (.instanceof 36, 3) := by decide +kernel
theorem d_Wa_isUnder_65 : decode b_Wa_isUnder 65 = .ok (.ireturn, 1) := by decide +kernel
theorem d_Wa_isUnder_66 : decode b_Wa_isUnder 66 = .ok (.aload_n 0, 1) := by decide +kernel
theorem d_Wa_isUnder_67 : decode b_Wa_isUnder 67 = .ok (.instanceof 39, 3) := by decide +kernel
theorem d_Wa_isUnder_70 : decode b_Wa_isUnder 70 = .ok (.ireturn, 1) := by decide +kernel
theorem d_Wa_isUnder_71 : decode b_Wa_isUnder 71 = .ok (.aload_n 0, 1) := by decide +kernel
theorem d_Wa_isUnder_72 : decode b_Wa_isUnder 72 = .ok (.instanceof 42, 3) := by decide +kernel
theorem d_Wa_isUnder_75 : decode b_Wa_isUnder 75 = .ok (.ireturn, 1) := by decide +kernel
theorem d_Wa_isUnder_76 : decode b_Wa_isUnder 76 = .ok (.iconst 0, 1) := by decide +kernel
theorem d_Wa_isUnder_77 : decode b_Wa_isUnder 77 = .ok (.ireturn, 1) := by decide +kernel
def p_Wa_isUnder (n : Nat) (ci : Nat) (d : Nat → Int32) (v1 : Int32)  : Option (Int32) := (if v1 = 0 then some 1 else if v1 = 1 then if isZ (if wUn ci 5 = true then (1 : Int32) else 0) then some (if wUn ci 5 = true then (1 : Int32) else 0) else none else if v1 = 2 then if isZ (if wUn ci 2 = true then (1 : Int32) else 0) then some (if wUn ci 2 = true then (1 : Int32) else 0) else none else if v1 = 3 then if isZ (if wUn ci 8 = true then (1 : Int32) else 0) then some (if wUn ci 8 = true then (1 : Int32) else 0) else none else if v1 = 4 then if isZ (if wUn ci 3 = true then (1 : Int32) else 0) then some (if wUn ci 3 = true then (1 : Int32) else 0) else none else if v1 = 5 then if isZ (if wUn ci 0 = true then (1 : Int32) else 0) then some (if wUn ci 0 = true then (1 : Int32) else 0) else none else if v1 = 6 then if isZ (if wUn ci 9 = true then (1 : Int32) else 0) then some (if wUn ci 9 = true then (1 : Int32) else 0) else none else some 0)
set_option maxHeartbeats 4000000 in
theorem c_Wa_isUnder (l : Launch) (n : Nat) (ci : Nat) (d : Nat → Int32) (dC : Nat → ClassId) (dI : Nat → Nat → Nat) (a : Nat) (hci : ci ∈ wcl) (v1 : Int32)   : ROi l y_Wa_isUnder b_Wa_isUnder 2 (.boolean) (rL 5) (kB dC dI a ci d) [.ref a, .int v1] (p_Wa_isUnder n ci d v1 ) := by
  refine en_roi (by decide) (Nat.le_of_ble_eq_true rfl) ?_
  intro z hf p e s m args below meth c ls hx hb hml hown hT hr hlk hB hl
  obtain ⟨hK, hw, hi⟩ := hB
  have hl : lv_has ls 2 [(0, .ref a), (1, .int v1)] := hl
  unfold p_Wa_isUnder at hf
  refine lv_iload_n hx hb d_Wa_isUnder_0 rfl (lv_at hl 1 rfl) ?_
  by_cases hs0 : v1 = 0
  · have hf := op_t hs0 hf
    refine lv_tableIn (tgt := 44) (off := 43) hx hb d_Wa_isUnder_1 (by rw [hs0]; decide) (by rw [hs0]; decide) (by rw [hs0]; decide) (by decide) ?_
    refine lv_iconst (v := 1) hx hb d_Wa_isUnder_44 (by decide) ?_
    obtain rfl := op_i1 hf
    exact rt_si hx hb hr hlk (by decide) d_Wa_isUnder_45
  · have hf := op_f hs0 hf
    by_cases hs1 : v1 = 1
    · have hf := op_t hs1 hf
      refine lv_tableIn (tgt := 46) (off := 45) hx hb d_Wa_isUnder_1 (by rw [hs1]; decide) (by rw [hs1]; decide) (by rw [hs1]; decide) (by decide) ?_
      refine lv_aload_n hx hb d_Wa_isUnder_46 rfl (lv_at hl 0 rfl) ?_
      refine w_inst (t := 5) hx hb hT hown hK hi hci (by decide) hw kl_Wa_25 d_Wa_isUnder_47 ?_
      obtain ⟨h1, hf⟩ := op_if hf
      obtain rfl := op_i1 hf
      exact rt_si hx hb hr hlk (isZ_nar h1) d_Wa_isUnder_50
    · have hf := op_f hs1 hf
      by_cases hs2 : v1 = 2
      · have hf := op_t hs2 hf
        refine lv_tableIn (tgt := 51) (off := 50) hx hb d_Wa_isUnder_1 (by rw [hs2]; decide) (by rw [hs2]; decide) (by rw [hs2]; decide) (by decide) ?_
        refine lv_aload_n hx hb d_Wa_isUnder_51 rfl (lv_at hl 0 rfl) ?_
        refine w_inst (t := 2) hx hb hT hown hK hi hci (by decide) hw kl_Wa_30 d_Wa_isUnder_52 ?_
        obtain ⟨h2, hf⟩ := op_if hf
        obtain rfl := op_i1 hf
        exact rt_si hx hb hr hlk (isZ_nar h2) d_Wa_isUnder_55
      · have hf := op_f hs2 hf
        by_cases hs3 : v1 = 3
        · have hf := op_t hs3 hf
          refine lv_tableIn (tgt := 56) (off := 55) hx hb d_Wa_isUnder_1 (by rw [hs3]; decide) (by rw [hs3]; decide) (by rw [hs3]; decide) (by decide) ?_
          refine lv_aload_n hx hb d_Wa_isUnder_56 rfl (lv_at hl 0 rfl) ?_
          refine w_inst (t := 8) hx hb hT hown hK hi hci (by decide) hw kl_Wa_33 d_Wa_isUnder_57 ?_
          obtain ⟨h3, hf⟩ := op_if hf
          obtain rfl := op_i1 hf
          exact rt_si hx hb hr hlk (isZ_nar h3) d_Wa_isUnder_60
        · have hf := op_f hs3 hf
          by_cases hs4 : v1 = 4
          · have hf := op_t hs4 hf
            refine lv_tableIn (tgt := 61) (off := 60) hx hb d_Wa_isUnder_1 (by rw [hs4]; decide) (by rw [hs4]; decide) (by rw [hs4]; decide) (by decide) ?_
            refine lv_aload_n hx hb d_Wa_isUnder_61 rfl (lv_at hl 0 rfl) ?_
            refine w_inst (t := 3) hx hb hT hown hK hi hci (by decide) hw kl_Wa_36 d_Wa_isUnder_62 ?_
            obtain ⟨h4, hf⟩ := op_if hf
            obtain rfl := op_i1 hf
            exact rt_si hx hb hr hlk (isZ_nar h4) d_Wa_isUnder_65
          · have hf := op_f hs4 hf
            by_cases hs5 : v1 = 5
            · have hf := op_t hs5 hf
              refine lv_tableIn (tgt := 66) (off := 65) hx hb d_Wa_isUnder_1 (by rw [hs5]; decide) (by rw [hs5]; decide) (by rw [hs5]; decide) (by decide) ?_
              refine lv_aload_n hx hb d_Wa_isUnder_66 rfl (lv_at hl 0 rfl) ?_
              refine w_inst (t := 0) hx hb hT hown hK hi hci (by decide) hw kl_Wa_39 d_Wa_isUnder_67 ?_
              obtain ⟨h5, hf⟩ := op_if hf
              obtain rfl := op_i1 hf
              exact rt_si hx hb hr hlk (isZ_nar h5) d_Wa_isUnder_70
            · have hf := op_f hs5 hf
              by_cases hs6 : v1 = 6
              · have hf := op_t hs6 hf
                refine lv_tableIn (tgt := 71) (off := 70) hx hb d_Wa_isUnder_1 (by rw [hs6]; decide) (by rw [hs6]; decide) (by rw [hs6]; decide) (by decide) ?_
                refine lv_aload_n hx hb d_Wa_isUnder_71 rfl (lv_at hl 0 rfl) ?_
                refine w_inst (t := 9) hx hb hT hown hK hi hci (by decide) hw kl_Wa_42 d_Wa_isUnder_72 ?_
                obtain ⟨h6, hf⟩ := op_if hf
                obtain rfl := op_i1 hf
                exact rt_si hx hb hr hlk (isZ_nar h6) d_Wa_isUnder_75
              · have hf := op_f hs6 hf
                have et0 := tn_ne (v := 0) (by decide) hs0
                have et1 := tn_ne (v := 1) (by decide) hs1
                have et2 := tn_ne (v := 2) (by decide) hs2
                have et3 := tn_ne (v := 3) (by decide) hs3
                have et4 := tn_ne (v := 4) (by decide) hs4
                have et5 := tn_ne (v := 5) (by decide) hs5
                have et6 := tn_ne (v := 6) (by decide) hs6
                refine lv_tableOut (tgt := 76) hx hb d_Wa_isUnder_1 (by omega) (by decide) ?_
                refine lv_iconst (v := 0) hx hb d_Wa_isUnder_76 (by decide) ?_
                obtain rfl := op_i1 hf
                exact rt_si hx hb hr hlk (by decide) d_Wa_isUnder_77
