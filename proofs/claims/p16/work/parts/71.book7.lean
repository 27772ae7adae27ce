/-! the reference's Book: post, unary, binary, expression -/
def y_Book_post : MethodName := ⟨"MachineLoomModel$Book", "post", "()I"⟩
abbrev b_Book_post : ByteArray := prog_15_method_35_code
theorem kc_Book_post : Cond.code y_Book_post b_Book_post 12 (Option.some Jvm.ClassFile.FieldType.int) ∈ ma := ma_of (tb_10 _ (List.mem_of_getElem? (i := 100) rfl)) rfl
def XPr (l : Launch) (dA : FieldType → ClassId) (D : va_G) (al : Nat → Nat) (ext : mv_Sh) (sk sv : Nat → Nat) (B g : Nat) : Prop := XK l dA D al ext sk sv B y_Book_primary b_Book_primary 2 [] (14 * g + 11) (500 * g + 450) (10 * g) g
def XPo (l : Launch) (dA : FieldType → ClassId) (D : va_G) (al : Nat → Nat) (ext : mv_Sh) (sk sv : Nat → Nat) (B g : Nat) : Prop := XK l dA D al ext sk sv B y_Book_post b_Book_post 12 [] (14 * g + 12) (500 * g + 500) (10 * g) g
theorem k_2317 : (Jvm.Cond.constantLong "MachineLoomModel$Book" (304 : Nat) (-9223372036854775808 : Int64)) ∈ ma := ma_of (tb_10 _ (List.mem_of_getElem? (i := 157) rfl)) rfl
theorem k_2261 : (Jvm.Cond.methodLink "MachineLoomModel$Book" (293 : Nat) ({ cls := "MachineLoomModel$Book", name := "primary", desc := "()I" } : Jvm.MethodName)) ∈ ma := ma_of (tb_10 _ (List.mem_of_getElem? (i := 101) rfl)) rfl
theorem k_2263 : (Jvm.Cond.instanceMethod ({ cls := "MachineLoomModel$Book", name := "primary", desc := "()I" } : Jvm.MethodName)) ∈ ma := ma_of (tb_10 _ (List.mem_of_getElem? (i := 103) rfl)) rfl
theorem ks_108 : Cond.selects "MachineLoomModel$Book" ⟨"MachineLoomModel$Book", "primary", "()I"⟩ ⟨"MachineLoomModel$Book", "primary", "()I"⟩ ∈ ma := ma_sel 108 rfl rfl
theorem d_Book_post_0 : decode b_Book_post 0 = .ok (.aload_n 0, 1) := by decide +kernel
theorem d_Book_post_1 : decode b_Book_post 1 = .ok (.invokevirtual 293, 3) := by decide +kernel
theorem d_Book_post_4 : decode b_Book_post 4 = .ok (.istore_n 1, 1) := by decide +kernel
theorem d_Book_post_5 : decode b_Book_post 5 = .ok (.aload_n 0, 1) := by decide +kernel
theorem d_Book_post_6 : decode b_Book_post 6 = .ok (.getfield 151, 3) := by decide +kernel
theorem d_Book_post_9 : decode b_Book_post 9 = .ok (.bipush 91, 2) := by decide +kernel
theorem d_Book_post_11 : decode b_Book_post 11 = .ok (.if_icmp .ne (258), 3) := by decide +kernel
theorem d_Book_post_14 : decode b_Book_post 14 = .ok (.aload_n 0, 1) := by decide +kernel
theorem d_Book_post_15 : decode b_Book_post 15 = .ok (.invokevirtual 203, 3) := by decide +kernel
theorem d_Book_post_18 : decode b_Book_post 18 = .ok (.aload_n 0, 1) := by decide +kernel
theorem d_Book_post_19 : decode b_Book_post 19 = .ok (.dup, 1) := by decide +kernel
theorem d_Book_post_20 : decode b_Book_post 20 = .ok (.getfield 197, 3) := by decide +kernel
theorem d_Book_post_23 : decode b_Book_post 23 = .ok (.iconst 1, 1) := by decide +kernel
theorem d_Book_post_24 : decode b_Book_post 24 = .ok (.iadd, 1) := by decide +kernel
theorem d_Book_post_25 : decode b_Book_post 25 = .ok (.putfield 197, 3) := by decide +kernel
theorem d_Book_post_28 : decode b_Book_post 28 = .ok (.aload_n 0, 1) := by decide +kernel
theorem d_Book_post_29 : decode b_Book_post 29 = .ok (.getfield 154, 3) := by decide +kernel
theorem d_Book_post_32 : decode b_Book_post 32 = .ok (.lstore_n 2, 1) := by decide +kernel
theorem d_Book_post_33 : decode b_Book_post 33 = .ok (.aload_n 0, 1) := by decide +kernel
theorem d_Book_post_34 : decode b_Book_post 34 = .ok (.getfield 154, 3) := by decide +kernel
theorem d_Book_post_37 : decode b_Book_post 37 = .ok (.lstore 4, 2) := by decide +kernel
theorem d_Book_post_39 : decode b_Book_post 39 = .ok (.aload_n 0, 1) := by decide +kernel
theorem d_Book_post_40 : decode b_Book_post 40 = .ok (.getfield 174, 3) := by decide +kernel
theorem d_Book_post_43 : decode b_Book_post 43 = .ok (.istore 6, 2) := by decide +kernel
theorem d_Book_post_45 : decode b_Book_post 45 = .ok (.aload_n 0, 1) := by decide +kernel
theorem d_Book_post_46 : decode b_Book_post 46 = .ok (.getfield 174, 3) := by decide +kernel
theorem d_Book_post_49 : decode b_Book_post 49 = .ok (.istore 7, 2) := by decide +kernel
theorem d_Book_post_51 : decode b_Book_post 51 = .ok (.aload_n 0, 1) := by decide +kernel
theorem d_Book_post_52 : decode b_Book_post 52 = .ok (.iconst 2, 1) := by decide +kernel
theorem d_Book_post_53 : decode b_Book_post 53 = .ok (.invokevirtual 259, 3) := by decide +kernel
theorem d_Book_post_56 : decode b_Book_post 56 = .ok (.aload_n 0, 1) := by decide +kernel
theorem d_Book_post_57 : decode b_Book_post 57 = .ok (.getfield 151, 3) := by decide +kernel
theorem d_Book_post_60 : decode b_Book_post 60 = .ok (.bipush 58, 2) := by decide +kernel
theorem d_Book_post_62 : decode b_Book_post 62 = .ok (.if_icmp .ne (7), 3) := by decide +kernel
theorem d_Book_post_65 : decode b_Book_post 65 = .ok (.iconst 1, 1) := by decide +kernel
theorem d_Book_post_66 : decode b_Book_post 66 = .ok (.goto (4), 3) := by decide +kernel
theorem d_Book_post_69 : decode b_Book_post 69 = .ok (.iconst 0, 1) := by decide +kernel
theorem d_Book_post_70 : decode b_Book_post 70 = .ok (.istore 8, 2) := by decide +kernel
theorem d_Book_post_72 : decode b_Book_post 72 = .ok (.iload 8, 2) := by decide +kernel
theorem d_Book_post_74 : decode b_Book_post 74 = .ok (.ifCond .eq (24), 3) := by decide +kernel
theorem d_Book_post_77 : decode b_Book_post 77 = .ok (.aload_n 0, 1) := by decide +kernel
theorem d_Book_post_78 : decode b_Book_post 78 = .ok (.invokevirtual 203, 3) := by decide +kernel
theorem d_Book_post_81 : decode b_Book_post 81 = .ok (.aload_n 0, 1) := by decide +kernel
theorem d_Book_post_82 : decode b_Book_post 82 = .ok (.getfield 154, 3) := by decide +kernel
theorem d_Book_post_85 : decode b_Book_post 85 = .ok (.lstore 4, 2) := by decide +kernel
theorem d_Book_post_87 : decode b_Book_post 87 = .ok (.aload_n 0, 1) := by decide +kernel
theorem d_Book_post_88 : decode b_Book_post 88 = .ok (.getfield 174, 3) := by decide +kernel
theorem d_Book_post_91 : decode b_Book_post 91 = .ok (.istore 7, 2) := by decide +kernel
theorem d_Book_post_93 : decode b_Book_post 93 = .ok (.aload_n 0, 1) := by decide +kernel
theorem d_Book_post_94 : decode b_Book_post 94 = .ok (.iconst 2, 1) := by decide +kernel
theorem d_Book_post_95 : decode b_Book_post 95 = .ok (.invokevirtual 259, 3) := by decide +kernel
theorem d_Book_post_98 : decode b_Book_post 98 = .ok (.aload_n 0, 1) := by decide +kernel
theorem d_Book_post_99 : decode b_Book_post 99 = .ok (.bipush 93, 2) := by decide +kernel
theorem d_Book_post_101 : decode b_Book_post 101 = .ok (.invokevirtual 259, 3) := by decide +kernel
theorem d_Book_post_104 : decode b_Book_post 104 = .ok (.aload_n 0, 1) := by decide +kernel
theorem d_Book_post_105 : decode b_Book_post 105 = .ok (.dup, 1) := by decide +kernel
theorem d_Book_post_106 : decode b_Book_post 106 = .ok (.getfield 197, 3) := by decide +kernel
theorem d_Book_post_109 : decode b_Book_post 109 = .ok (.iconst 1, 1) := by decide +kernel
theorem d_Book_post_110 : decode b_Book_post 110 = .ok (.isub, 1) := by decide +kernel
theorem d_Book_post_111 : decode b_Book_post 111 = .ok (.putfield 197, 3) := by decide +kernel
theorem d_Book_post_114 : decode b_Book_post 114 = .ok (.aload_n 0, 1) := by decide +kernel
theorem d_Book_post_115 : decode b_Book_post 115 = .ok (.getfield 97, 3) := by decide +kernel
theorem d_Book_post_118 : decode b_Book_post 118 = .ok (.iload_n 1, 1) := by decide +kernel
theorem d_Book_post_119 : decode b_Book_post 119 = .ok (.iaload, 1) := by decide +kernel
theorem d_Book_post_120 : decode b_Book_post 120 = .ok (.ifCond .eq (20), 3) := by decide +kernel
theorem d_Book_post_123 : decode b_Book_post 123 = .ok (.lload_n 2, 1) := by decide +kernel
theorem d_Book_post_124 : decode b_Book_post 124 = .ok (.lconst 0, 1) := by decide +kernel
theorem d_Book_post_125 : decode b_Book_post 125 = .ok (.aload_n 0, 1) := by decide +kernel
theorem d_Book_post_126 : decode b_Book_post 126 = .ok (.getfield 97, 3) := by decide +kernel
theorem d_Book_post_129 : decode b_Book_post 129 = .ok (.iload_n 1, 1) := by decide +kernel
theorem d_Book_post_130 : decode b_Book_post 130 = .ok (.iaload, 1) := by decide +kernel
theorem d_Book_post_131 : decode b_Book_post 131 = .ok (.iconst 1, 1) := by decide +kernel
theorem d_Book_post_132 : decode b_Book_post 132 = .ok (.isub, 1) := by decide +kernel
theorem d_Book_post_133 : decode b_Book_post 133 = .ok (.i2l, 1) := by decide +kernel
theorem d_Book_post_134 : decode b_Book_post 134 = .ok (.invokestatic 296, 3) := by decide +kernel
theorem d_Book_post_137 : decode b_Book_post 137 = .ok (.ifCond .eq (7), 3) := by decide +kernel
theorem d_Book_post_140 : decode b_Book_post 140 = .ok (.iconst 1, 1) := by decide +kernel
theorem d_Book_post_141 : decode b_Book_post 141 = .ok (.goto (4), 3) := by decide +kernel
theorem d_Book_post_144 : decode b_Book_post 144 = .ok (.iconst 0, 1) := by decide +kernel
theorem d_Book_post_145 : decode b_Book_post 145 = .ok (.istore 9, 2) := by decide +kernel
theorem d_Book_post_147 : decode b_Book_post 147 = .ok (.lload 4, 2) := by decide +kernel
theorem d_Book_post_149 : decode b_Book_post 149 = .ok (.ldc2_w 304, 3) := by decide +kernel
theorem d_Book_post_152 : decode b_Book_post 152 = .ok (.ladd, 1) := by decide +kernel
theorem d_Book_post_153 : decode b_Book_post 153 = .ok (.lload_n 2, 1) := by decide +kernel
theorem d_Book_post_154 : decode b_Book_post 154 = .ok (.ldc2_w 304, 3) := by decide +kernel
theorem d_Book_post_157 : decode b_Book_post 157 = .ok (.ladd, 1) := by decide +kernel
theorem d_Book_post_158 : decode b_Book_post 158 = .ok (.lcmp, 1) := by decide +kernel
theorem d_Book_post_159 : decode b_Book_post 159 = .ok (.ifCond .gt (7), 3) := by decide +kernel
theorem d_Book_post_162 : decode b_Book_post 162 = .ok (.iconst 1, 1) := by decide +kernel
theorem d_Book_post_163 : decode b_Book_post 163 = .ok (.goto (4), 3) := by decide +kernel
theorem d_Book_post_166 : decode b_Book_post 166 = .ok (.iconst 0, 1) := by decide +kernel
theorem d_Book_post_167 : decode b_Book_post 167 = .ok (.istore 10, 2) := by decide +kernel
theorem d_Book_post_169 : decode b_Book_post 169 = .ok (.iload 9, 2) := by decide +kernel
theorem d_Book_post_171 : decode b_Book_post 171 = .ok (.ifCond .ne (10), 3) := by decide +kernel
theorem d_Book_post_174 : decode b_Book_post 174 = .ok (.aload_n 0, 1) := by decide +kernel
theorem d_Book_post_175 : decode b_Book_post 175 = .ok (.iconst 3, 1) := by decide +kernel
theorem d_Book_post_176 : decode b_Book_post 176 = .ok (.iload 6, 2) := by decide +kernel
theorem d_Book_post_178 : decode b_Book_post 178 = .ok (.invokevirtual 267, 3) := by decide +kernel
theorem d_Book_post_181 : decode b_Book_post 181 = .ok (.iload 10, 2) := by decide +kernel
theorem d_Book_post_183 : decode b_Book_post 183 = .ok (.ifCond .ne (10), 3) := by decide +kernel
theorem d_Book_post_186 : decode b_Book_post 186 = .ok (.aload_n 0, 1) := by decide +kernel
theorem d_Book_post_187 : decode b_Book_post 187 = .ok (.iconst 3, 1) := by decide +kernel
theorem d_Book_post_188 : decode b_Book_post 188 = .ok (.iload 7, 2) := by decide +kernel
theorem d_Book_post_190 : decode b_Book_post 190 = .ok (.invokevirtual 267, 3) := by decide +kernel
theorem d_Book_post_193 : decode b_Book_post 193 = .ok (.aload_n 0, 1) := by decide +kernel
theorem d_Book_post_194 : decode b_Book_post 194 = .ok (.getfield 97, 3) := by decide +kernel
theorem d_Book_post_197 : decode b_Book_post 197 = .ok (.iload_n 1, 1) := by decide +kernel
theorem d_Book_post_198 : decode b_Book_post 198 = .ok (.iaload, 1) := by decide +kernel
theorem d_Book_post_199 : decode b_Book_post 199 = .ok (.ifCond .le (17), 3) := by decide +kernel
theorem d_Book_post_202 : decode b_Book_post 202 = .ok (.iload 9, 2) := by decide +kernel
theorem d_Book_post_204 : decode b_Book_post 204 = .ok (.ifCond .eq (12), 3) := by decide +kernel
theorem d_Book_post_207 : decode b_Book_post 207 = .ok (.iload 10, 2) := by decide +kernel
theorem d_Book_post_209 : decode b_Book_post 209 = .ok (.ifCond .eq (7), 3) := by decide +kernel
theorem d_Book_post_212 : decode b_Book_post 212 = .ok (.iconst 1, 1) := by decide +kernel
theorem d_Book_post_213 : decode b_Book_post 213 = .ok (.goto (4), 3) := by decide +kernel
theorem d_Book_post_216 : decode b_Book_post 216 = .ok (.iconst 0, 1) := by decide +kernel
theorem d_Book_post_217 : decode b_Book_post 217 = .ok (.istore 11, 2) := by decide +kernel
theorem d_Book_post_219 : decode b_Book_post 219 = .ok (.aload_n 0, 1) := by decide +kernel
theorem d_Book_post_220 : decode b_Book_post 220 = .ok (.bipush 8, 2) := by decide +kernel
theorem d_Book_post_222 : decode b_Book_post 222 = .ok (.iload_n 1, 1) := by decide +kernel
theorem d_Book_post_223 : decode b_Book_post 223 = .ok (.iload 11, 2) := by decide +kernel
theorem d_Book_post_225 : decode b_Book_post 225 = .ok (.ifCond .eq (8), 3) := by decide +kernel
theorem d_Book_post_228 : decode b_Book_post 228 = .ok (.lload_n 2, 1) := by decide +kernel
theorem d_Book_post_229 : decode b_Book_post 229 = .ok (.l2i, 1) := by decide +kernel
theorem d_Book_post_230 : decode b_Book_post 230 = .ok (.goto (4), 3) := by decide +kernel
theorem d_Book_post_233 : decode b_Book_post 233 = .ok (.iconst 0, 1) := by decide +kernel
theorem d_Book_post_234 : decode b_Book_post 234 = .ok (.iload 11, 2) := by decide +kernel
theorem d_Book_post_236 : decode b_Book_post 236 = .ok (.ifCond .eq (9), 3) := by decide +kernel
theorem d_Book_post_239 : decode b_Book_post 239 = .ok (.lload 4, 2) := by decide +kernel
theorem d_Book_post_241 : decode b_Book_post 241 = .ok (.l2i, 1) := by decide +kernel
theorem d_Book_post_242 : decode b_Book_post 242 = .ok (.goto (4), 3) := by decide +kernel
theorem d_Book_post_245 : decode b_Book_post 245 = .ok (.iconst 0, 1) := by decide +kernel
theorem d_Book_post_246 : decode b_Book_post 246 = .ok (.iload 11, 2) := by decide +kernel
theorem d_Book_post_248 : decode b_Book_post 248 = .ok (.ifCond .eq (13), 3) := by decide +kernel
theorem d_Book_post_251 : decode b_Book_post 251 = .ok (.lload_n 2, 1) := by decide +kernel
theorem d_Book_post_252 : decode b_Book_post 252 = .ok (.lload 4, 2) := by decide +kernel
theorem d_Book_post_254 : decode b_Book_post 254 = .ok (.lsub, 1) := by decide +kernel
theorem d_Book_post_255 : decode b_Book_post 255 = .ok (.l2i, 1) := by decide +kernel
theorem d_Book_post_256 : decode b_Book_post 256 = .ok (.iconst 1, 1) := by decide +kernel
theorem d_Book_post_257 : decode b_Book_post 257 = .ok (.iadd, 1) := by decide +kernel
theorem d_Book_post_258 : decode b_Book_post 258 = .ok (.goto (4), 3) := by decide +kernel
theorem d_Book_post_261 : decode b_Book_post 261 = .ok (.iconst 0, 1) := by decide +kernel
theorem d_Book_post_262 : decode b_Book_post 262 = .ok (.invokevirtual 271, 3) := by decide +kernel
theorem d_Book_post_265 : decode b_Book_post 265 = .ok (.istore_n 1, 1) := by decide +kernel
theorem d_Book_post_266 : decode b_Book_post 266 = .ok (.goto (-261), 3) := by decide +kernel
theorem d_Book_post_269 : decode b_Book_post 269 = .ok (.iload_n 1, 1) := by decide +kernel
theorem d_Book_post_270 : decode b_Book_post 270 = .ok (.ireturn, 1) := by decide +kernel
set_option maxHeartbeats 4000000 in
set_option maxRecDepth 100000 in
theorem c_Book_post_x (l : Launch) {dA : FieldType → ClassId} {D : va_G} {al : Nat → Nat} {ext : mv_Sh} {sk sv : Nat → Nat} (hi : mv_inj (mg dA D al ext)) (σ : mv_H) (f len th d n a1 a2 : Nat) (hf : d + f = 61) (hP : PS 74 len th d n a1 a2 σ) (hPr : XPr l dA D al ext sk sv 74 f) : mv_C l y_Book_post (Cond.code y_Book_post b_Book_post 12 (Option.some Jvm.ClassFile.FieldType.int) :: ma) ({ frames := 14 * f + 12, cells := 0, slots := 0, locals := 500 * f + 500 }) (mg dA D al ext) (mK sk sv) [.ref (al 74)] σ (mv_Ui (XO 74 len th d n a1 (10 * f) σ) ("MachineLoomModel$Book$Wrong", al 107) (BF 74 σ)) := by
  refine mv_C.ofV (cc := b_Book_post) (nL := 12) (ret := (Option.some Jvm.ClassFile.FieldType.int)) (by decide +kernel) rfl hi (Nat.le_of_ble_eq_true rfl) ?_
  intro p e s m below meth c B hNs hr hnm hno
  have hS := XT.rf hP
  have hn0 := hP.le.1
  have lp : ∀ (nn : Nat) (S : mv_H) (n8 : Nat) (t8 : Nat) (u8 : Nat) (x8 : Int32) (hS : XT 74 len th σ n a1 S d n8 t8 u8 [(n, n8, 10 * f)]) (hn8 : n < n8) (hx8 : x8.toInt + 1 = n8), len + 1 - t8 < nn → mv_V p l e ({ frames := 14 * f + 12, cells := 0, slots := 0, locals := 500 * f + 500 }) s m ([.ref (al 74)] : List Value).toArray below meth c (mg dA D al ext) 12 0 0 (mv_Q (mg dA D al ext) below s 0 0 (mv_Ui (XO 74 len th d n a1 (10 * f) σ) ("MachineLoomModel$Book$Wrong", al 107) (BF 74 σ))) S 5 [(1, .int x8), (0, .ref (al 74))] [] := by
    intro nn
    induction nn with
    | zero => intro S n8 t8 u8 x8 hS hn8 hx8 hm; exact absurd hm (Nat.not_lt_zero _)
    | succ nn ih =>
      intro S n8 t8 u8 x8 hS hn8 hx8 hm
      refine mv_aload_n (pc := 5) B d_Book_post_5 rfl 1 rfl ?_
      refine mv_getI (pc := 6) (ci := 12) (C := R_Book) (T := F_Book) (N := 65) B 4 rfl rfl (by decide) i_Book (B.2.2.2.1 _ k_1847) rfl d_Book_post_6 ?_
      refine mv_bipush (pc := 9) (v := 91) B d_Book_post_9 (by decide) ?_
      refine mv_icmp_ne (pc := 11) (tgt := 269) B d_Book_post_11 rfl (fun h11 => ?_) (fun h11 => ?_)
      · skip
        refine mv_iload_n (pc := 269) B d_Book_post_269 rfl 0 rfl ?_
        exact mv_iret (pc := 270) B hr rfl d_Book_post_270 (Nat.le_refl _) (Nat.le_refl _) (Or.inl ⟨_, rfl, hS.out hx8 hn8 0 rfl (Nat.le_refl _)⟩)
      · skip
        refine mv_aload_n (pc := 14) B d_Book_post_14 rfl 1 rfl ?_
        refine mv_callVUv (pc := 15) (n := 0) (ci := 12) (C := R_Book) B (mK_ok sk sv) hNs rfl rfl (c_Book_pass_x l hi _ len _ _ hS.P.1) rfl (ma_goodc kc_Book_pass) (B.2.2.2.1 _ k_2173) (B.2.2.2.1 _ k_2175) (B.2.2.2.1 _ ks_90) (B.2.2.2.1 _ k_13) ⟨by decide +kernel, by decide +kernel, by decide +kernel⟩ rfl d_Book_post_15 rfl (Nat.le_of_ble_eq_true rfl) ⟨by first | decide | (dsimp only; omega), by first | decide | (dsimp only; omega)⟩ ⟨Nat.le_refl _, Nat.le_refl _⟩ ⟨Nat.le_refl _, Nat.le_refl _⟩ (mv_noH hno _) (fun τ9 g9 => Or.inr ⟨rfl, hS.1.2.1.bf.tr g9.bf⟩) (fun σ15 h15 => ?_)
        have hL15 := hS.le
        have w15 := hS.P.w (by rw [h11]; decide)
        obtain ⟨d15, t15, u15, q15, g15⟩ := h15
        rw [hS.P.2.1] at d15
        have hL0 := hS.le
        have hS := hS.pass q15 g15
        refine mv_aload_n (pc := 18) B d_Book_post_18 rfl 1 rfl ?_
        refine mv_dup (pc := 19) B d_Book_post_19 rfl ?_
        refine mv_getI (pc := 20) (ci := 12) (C := R_Book) (T := F_Book) (N := 65) B 8 rfl rfl (by decide) i_Book (B.2.2.2.1 _ k_1851) rfl d_Book_post_20 ?_
        refine mv_iconst (pc := 23) (v := 1) B d_Book_post_23 (by decide) ?_
        refine mv_iadd (pc := 24) B d_Book_post_24 ?_
        refine mv_putI (pc := 25) (ci := 12) (C := R_Book) (T := F_Book) (N := 65) B 8 rfl rfl (by decide) i_Book t_Book_ok n_Book (B.2.2.2.1 _ k_1851) rfl rfl rfl rfl d_Book_post_25 ?_
        refine mv_gen (fun S28 eS28 => ?_)
        have hS := hS.dep (hS.P.up (by omega))
        rw [← eS28] at hS
        clear eS28
        have j98 : ∀ (S9 : mv_H) (t9 : Nat) (u9 : Nat) (h9 : Int64) (l9 : Int64) (p9 : Int32) (q9 : Int32) (hS : XT 74 len th σ n a1 S9 (d + 1) n8 t9 u9 [(n, n8, 10 * f)]) (ht9 : t8 < t9) (hb9 : n8 + 1 + a1 ≤ n + t9), mv_V p l e ({ frames := 14 * f + 12, cells := 0, slots := 0, locals := 500 * f + 500 }) s m ([.ref (al 74)] : List Value).toArray below meth c (mg dA D al ext) 12 0 0 (mv_Q (mg dA D al ext) below s 0 0 (mv_Ui (XO 74 len th d n a1 (10 * f) σ) ("MachineLoomModel$Book$Wrong", al 107) (BF 74 σ))) S9 98 [(0, .ref (al 74)), (1, .int x8), (2, .long h9), (4, .long l9), (6, .int p9), (7, .int q9)] [] := by
          intro S9 t9 u9 h9 l9 p9 q9 hS ht9 hb9
          have hL98 := hS.le
          have hb8 : vp_in x8 33000 := i32_in (by omega) (by omega)
          refine mv_aload_n (pc := 98) B d_Book_post_98 rfl 0 rfl ?_
          refine mv_bipush (pc := 99) (v := 93) B d_Book_post_99 (by decide) ?_
          refine mv_callVUv (pc := 101) (n := 1) (ci := 12) (C := R_Book) B (mK_ok sk sv) hNs rfl rfl (c_Book_need_x l hi _ _ len _ _ hS.P.1) rfl (ma_goodc kc_Book_need) (B.2.2.2.1 _ k_2177) (B.2.2.2.1 _ k_2179) (B.2.2.2.1 _ ks_91) (B.2.2.2.1 _ k_13) ⟨by decide +kernel, by decide +kernel, by decide +kernel⟩ rfl d_Book_post_101 rfl (Nat.le_of_ble_eq_true rfl) ⟨by first | decide | (dsimp only; omega), by first | decide | (dsimp only; omega)⟩ ⟨Nat.le_refl _, Nat.le_refl _⟩ ⟨Nat.le_refl _, Nat.le_refl _⟩ (mv_noH hno _) (fun τ9 g9 => Or.inr ⟨rfl, hS.1.2.1.bf.tr g9.bf⟩) (fun σ101 h101 => ?_)
          obtain ⟨k101, d101, t101, u101, q101, g101⟩ := h101
          have w101 := hS.P.w (by rw [k101]; decide)
          rw [hS.P.2.1] at d101
          have hL0 := hS.le
          have hS := hS.pass q101 g101
          refine mv_aload_n (pc := 104) B d_Book_post_104 rfl 0 rfl ?_
          refine mv_dup (pc := 105) B d_Book_post_105 rfl ?_
          refine mv_getI (pc := 106) (ci := 12) (C := R_Book) (T := F_Book) (N := 65) B 8 rfl rfl (by decide) i_Book (B.2.2.2.1 _ k_1851) rfl d_Book_post_106 ?_
          refine mv_iconst (pc := 109) (v := 1) B d_Book_post_109 (by decide) ?_
          refine mv_isub (pc := 110) B d_Book_post_110 ?_
          refine mv_putI (pc := 111) (ci := 12) (C := R_Book) (T := F_Book) (N := 65) B 8 rfl rfl (by decide) i_Book t_Book_ok n_Book (B.2.2.2.1 _ k_1851) rfl rfl rfl rfl d_Book_post_111 ?_
          refine mv_gen (fun S114 eS114 => ?_)
          have hS := hS.dep hS.P.dn
          rw [← eS114] at hS
          clear eS114
          have j262 : ∀ (τ : mv_H) (b9 : Int32) (c9 : Int32) (w9 : Int32) (hT : FT 74 S114 τ), mv_V p l e ({ frames := 14 * f + 12, cells := 0, slots := 0, locals := 500 * f + 500 }) s m ([.ref (al 74)] : List Value).toArray below meth c (mg dA D al ext) 12 0 0 (mv_Q (mg dA D al ext) below s 0 0 (mv_Ui (XO 74 len th d n a1 (10 * f) σ) ("MachineLoomModel$Book$Wrong", al 107) (BF 74 σ))) τ 262 [(0, .ref (al 74))] [.int w9, .int c9, .int b9, .int x8, .int 8, .ref (al 74)] := by
            intro τ b9 c9 w9 hT
            have hS := hS.ft hT
            refine mv_callVi (pc := 262) (n := 5) (ci := 12) (C := R_Book) B (mK_ok sk sv) hNs rfl rfl (c_Book_node_x l hi _ _ _ _ _ _ hS.R (by have := hS.le; omega) (by have := hS.le; omega)) rfl (ma_goodc kc_Book_node) (B.2.2.2.1 _ k_2269) (B.2.2.2.1 _ k_2271) (B.2.2.2.1 _ ks_110) (B.2.2.2.1 _ k_13) ⟨by decide +kernel, by decide +kernel, by decide +kernel⟩ rfl d_Book_post_262 rfl (Nat.le_of_ble_eq_true rfl) ⟨by first | decide | (dsimp only; omega), by first | decide | (dsimp only; omega)⟩ ⟨Nat.le_refl _, Nat.le_refl _⟩ ⟨Nat.le_refl _, Nat.le_refl _⟩ (mv_noH hno _) (fun v262 σ262 h262 => ?_)
            obtain ⟨e262, z262⟩ := h262
            have hL262 := hS.le
            have hN := hS.nodeE z262 (lo := n) (R := 10 * f) (by omega) hn0 (fun zz => XR.pick (hS.2.at 0 rfl zz) hn8 hS.P.nn hx8)
            have hv262 : v262.toInt + 1 = ((n8 + 1 : Nat) : Int) := by rw [e262]; omega
            refine mv_istore_n (pc := 265) B d_Book_post_265 rfl (by decide) rfl ?_
            refine mv_goto (pc := 266) (tgt := 5) B d_Book_post_266 rfl ?_
            refine mv_lpick [0, 1] rfl ?_
            exact ih _ _ _ _ _ hN (by omega) hv262 (by omega)
          have j246 : ∀ (τ : mv_H) (h9 : Int64) (l9 : Int64) (b9 : Int32) (c9 : Int32) (r9 : Int32) (hT : FT 74 S114 τ), mv_V p l e ({ frames := 14 * f + 12, cells := 0, slots := 0, locals := 500 * f + 500 }) s m ([.ref (al 74)] : List Value).toArray below meth c (mg dA D al ext) 12 0 0 (mv_Q (mg dA D al ext) below s 0 0 (mv_Ui (XO 74 len th d n a1 (10 * f) σ) ("MachineLoomModel$Book$Wrong", al 107) (BF 74 σ))) τ 246 [(0, .ref (al 74)), (2, .long h9), (4, .long l9), (11, .int r9)] [.int c9, .int b9, .int x8, .int 8, .ref (al 74)] := by
            intro τ h9 l9 b9 c9 r9 hT
            refine mv_iload (pc := 246) B d_Book_post_246 3 rfl ?_
            refine mv_if_eq (pc := 248) (tgt := 261) B d_Book_post_248 rfl (fun h248 => ?_) (fun h248 => ?_)
            · skip
              refine mv_iconst (pc := 261) (v := 0) B d_Book_post_261 (by decide) ?_
              refine mv_lpick [0] rfl ?_
              exact j262 _ _ _ _ hT
            · skip
              refine mv_lload_n (pc := 251) B d_Book_post_251 rfl 1 rfl ?_
              refine mv_lload (pc := 252) B d_Book_post_252 2 rfl ?_
              refine mv_lsub (pc := 254) B d_Book_post_254 ?_
              refine mv_l2i (pc := 255) B d_Book_post_255 ?_
              refine mv_iconst (pc := 256) (v := 1) B d_Book_post_256 (by decide) ?_
              refine mv_iadd (pc := 257) B d_Book_post_257 ?_
              refine mv_goto (pc := 258) (tgt := 262) B d_Book_post_258 rfl ?_
              refine mv_lpick [0] rfl ?_
              exact j262 _ _ _ _ hT
          have j234 : ∀ (τ : mv_H) (h9 : Int64) (l9 : Int64) (b9 : Int32) (r9 : Int32) (hT : FT 74 S114 τ), mv_V p l e ({ frames := 14 * f + 12, cells := 0, slots := 0, locals := 500 * f + 500 }) s m ([.ref (al 74)] : List Value).toArray below meth c (mg dA D al ext) 12 0 0 (mv_Q (mg dA D al ext) below s 0 0 (mv_Ui (XO 74 len th d n a1 (10 * f) σ) ("MachineLoomModel$Book$Wrong", al 107) (BF 74 σ))) τ 234 [(0, .ref (al 74)), (2, .long h9), (4, .long l9), (11, .int r9)] [.int b9, .int x8, .int 8, .ref (al 74)] := by
            intro τ h9 l9 b9 r9 hT
            refine mv_iload (pc := 234) B d_Book_post_234 3 rfl ?_
            refine mv_if_eq (pc := 236) (tgt := 245) B d_Book_post_236 rfl (fun h236 => ?_) (fun h236 => ?_)
            · skip
              refine mv_iconst (pc := 245) (v := 0) B d_Book_post_245 (by decide) ?_
              refine mv_lpick [0, 1, 2, 3] rfl ?_
              exact j246 _ _ _ _ _ _ hT
            · skip
              refine mv_lload (pc := 239) B d_Book_post_239 2 rfl ?_
              refine mv_l2i (pc := 241) B d_Book_post_241 ?_
              refine mv_goto (pc := 242) (tgt := 246) B d_Book_post_242 rfl ?_
              refine mv_lpick [0, 1, 2, 3] rfl ?_
              exact j246 _ _ _ _ _ _ hT
          have j217 : ∀ (τ : mv_H) (h9 : Int64) (l9 : Int64) (r9 : Int32) (hT : FT 74 S114 τ), mv_V p l e ({ frames := 14 * f + 12, cells := 0, slots := 0, locals := 500 * f + 500 }) s m ([.ref (al 74)] : List Value).toArray below meth c (mg dA D al ext) 12 0 0 (mv_Q (mg dA D al ext) below s 0 0 (mv_Ui (XO 74 len th d n a1 (10 * f) σ) ("MachineLoomModel$Book$Wrong", al 107) (BF 74 σ))) τ 217 [(0, .ref (al 74)), (1, .int x8), (2, .long h9), (4, .long l9)] [.int r9] := by
            intro τ h9 l9 r9 hT
            refine mv_istore (pc := 217) B d_Book_post_217 (by decide) rfl ?_
            refine mv_aload_n (pc := 219) B d_Book_post_219 rfl 1 rfl ?_
            refine mv_bipush (pc := 220) (v := 8) B d_Book_post_220 (by decide) ?_
            refine mv_iload_n (pc := 222) B d_Book_post_222 rfl 2 rfl ?_
            refine mv_iload (pc := 223) B d_Book_post_223 0 rfl ?_
            refine mv_if_eq (pc := 225) (tgt := 233) B d_Book_post_225 rfl (fun h225 => ?_) (fun h225 => ?_)
            · skip
              refine mv_iconst (pc := 233) (v := 0) B d_Book_post_233 (by decide) ?_
              refine mv_lpick [1, 3, 4, 0] rfl ?_
              exact j234 _ _ _ _ _ hT
            · skip
              refine mv_lload_n (pc := 228) B d_Book_post_228 rfl 3 rfl ?_
              refine mv_l2i (pc := 229) B d_Book_post_229 ?_
              refine mv_goto (pc := 230) (tgt := 234) B d_Book_post_230 rfl ?_
              refine mv_lpick [1, 3, 4, 0] rfl ?_
              exact j234 _ _ _ _ _ hT
          have j193 : ∀ (τ : mv_H) (h9 : Int64) (l9 : Int64) (k9 : Int32) (m9 : Int32) (hT : FT 74 S114 τ), mv_V p l e ({ frames := 14 * f + 12, cells := 0, slots := 0, locals := 500 * f + 500 }) s m ([.ref (al 74)] : List Value).toArray below meth c (mg dA D al ext) 12 0 0 (mv_Q (mg dA D al ext) below s 0 0 (mv_Ui (XO 74 len th d n a1 (10 * f) σ) ("MachineLoomModel$Book$Wrong", al 107) (BF 74 σ))) τ 193 [(0, .ref (al 74)), (1, .int x8), (2, .long h9), (4, .long l9), (9, .int k9), (10, .int m9)] [] := by
            intro τ h9 l9 k9 m9 hT
            have hS := hS.ft hT
            refine mv_aload_n (pc := 193) B d_Book_post_193 rfl 0 rfl ?_
            refine mv_getR (pc := 194) (ci := 12) (C := R_Book) (T := F_Book) (N := 65) B 45 rfl rfl (by decide) i_Book (B.2.2.2.1 _ k_1894) rfl (hS.R.1 _ 45 _ rfl) d_Book_post_194 ?_
            refine mv_iload_n (pc := 197) B d_Book_post_197 rfl 1 rfl ?_
            refine mv_iald (pc := 198) B rfl hb8 d_Book_post_198 ?_
            refine mv_if_le (pc := 199) (tgt := 216) B d_Book_post_199 rfl (fun h199 => ?_) (fun h199 => ?_)
            · skip
              refine mv_iconst (pc := 216) (v := 0) B d_Book_post_216 (by decide) ?_
              refine mv_lpick [0, 1, 2, 3] rfl ?_
              exact j217 _ _ _ _ hT
            · skip
              refine mv_iload (pc := 202) B d_Book_post_202 4 rfl ?_
              refine mv_if_eq (pc := 204) (tgt := 216) B d_Book_post_204 rfl (fun h204 => ?_) (fun h204 => ?_)
              · skip
                refine mv_iconst (pc := 216) (v := 0) B d_Book_post_216 (by decide) ?_
                refine mv_lpick [0, 1, 2, 3] rfl ?_
                exact j217 _ _ _ _ hT
              · skip
                refine mv_iload (pc := 207) B d_Book_post_207 5 rfl ?_
                refine mv_if_eq (pc := 209) (tgt := 216) B d_Book_post_209 rfl (fun h209 => ?_) (fun h209 => ?_)
                · skip
                  refine mv_iconst (pc := 216) (v := 0) B d_Book_post_216 (by decide) ?_
                  refine mv_lpick [0, 1, 2, 3] rfl ?_
                  exact j217 _ _ _ _ hT
                · skip
                  refine mv_iconst (pc := 212) (v := 1) B d_Book_post_212 (by decide) ?_
                  refine mv_goto (pc := 213) (tgt := 217) B d_Book_post_213 rfl ?_
                  refine mv_lpick [0, 1, 2, 3] rfl ?_
                  exact j217 _ _ _ _ hT
          have j181 : ∀ (τ : mv_H) (h9 : Int64) (l9 : Int64) (q9 : Int32) (k9 : Int32) (m9 : Int32) (hT : FT 74 S114 τ), mv_V p l e ({ frames := 14 * f + 12, cells := 0, slots := 0, locals := 500 * f + 500 }) s m ([.ref (al 74)] : List Value).toArray below meth c (mg dA D al ext) 12 0 0 (mv_Q (mg dA D al ext) below s 0 0 (mv_Ui (XO 74 len th d n a1 (10 * f) σ) ("MachineLoomModel$Book$Wrong", al 107) (BF 74 σ))) τ 181 [(0, .ref (al 74)), (1, .int x8), (2, .long h9), (4, .long l9), (7, .int q9), (9, .int k9), (10, .int m9)] [] := by
            intro τ h9 l9 q9 k9 m9 hT
            refine mv_iload (pc := 181) B d_Book_post_181 6 rfl ?_
            refine mv_if_ne (pc := 183) (tgt := 193) B d_Book_post_183 rfl (fun h183 => ?_) (fun h183 => ?_)
            · skip
              refine mv_lpick [0, 1, 2, 3, 5, 6] rfl ?_
              exact j193 _ _ _ _ _ (by first | exact hT | exact hT.of h190)
            · skip
              refine mv_aload_n (pc := 186) B d_Book_post_186 rfl 0 rfl ?_
              refine mv_iconst (pc := 187) (v := 3) B d_Book_post_187 (by decide) ?_
              refine mv_iload (pc := 188) B d_Book_post_188 4 rfl ?_
              refine mv_callVv (pc := 190) (n := 2) (ci := 12) (C := R_Book) B (mK_ok sk sv) hNs rfl rfl (c_Book_fault_x l hi _ _ _ (by decide)) rfl (ma_goodc kc_Book_fault) (B.2.2.2.1 _ k_2185) (B.2.2.2.1 _ k_2187) (B.2.2.2.1 _ ks_92) (B.2.2.2.1 _ k_13) ⟨by decide +kernel, by decide +kernel, by decide +kernel⟩ rfl d_Book_post_190 rfl (Nat.le_of_ble_eq_true rfl) ⟨by first | decide | (dsimp only; omega), by first | decide | (dsimp only; omega)⟩ ⟨Nat.le_refl _, Nat.le_refl _⟩ ⟨Nat.le_refl _, Nat.le_refl _⟩ (mv_noH hno _) (fun σ190 h190 => ?_)
              refine mv_lpick [0, 1, 2, 3, 5, 6] rfl ?_
              exact j193 _ _ _ _ _ (by first | exact hT | exact hT.of h190)
          have j167 : ∀ (h9 : Int64) (l9 : Int64) (p9 : Int32) (q9 : Int32) (k9 : Int32) (m9 : Int32) , mv_V p l e ({ frames := 14 * f + 12, cells := 0, slots := 0, locals := 500 * f + 500 }) s m ([.ref (al 74)] : List Value).toArray below meth c (mg dA D al ext) 12 0 0 (mv_Q (mg dA D al ext) below s 0 0 (mv_Ui (XO 74 len th d n a1 (10 * f) σ) ("MachineLoomModel$Book$Wrong", al 107) (BF 74 σ))) S114 167 [(0, .ref (al 74)), (1, .int x8), (2, .long h9), (4, .long l9), (6, .int p9), (7, .int q9), (9, .int k9)] [.int m9] := by
            intro h9 l9 p9 q9 k9 m9
            refine mv_istore (pc := 167) B d_Book_post_167 (by decide) rfl ?_
            refine mv_iload (pc := 169) B d_Book_post_169 7 rfl ?_
            refine mv_if_ne (pc := 171) (tgt := 181) B d_Book_post_171 rfl (fun h171 => ?_) (fun h171 => ?_)
            · skip
              refine mv_lpick [1, 2, 3, 4, 6, 7, 0] rfl ?_
              exact j181 _ _ _ _ _ _ (by first | exact FT.rf | exact FT.rf.of h178)
            · skip
              refine mv_aload_n (pc := 174) B d_Book_post_174 rfl 1 rfl ?_
              refine mv_iconst (pc := 175) (v := 3) B d_Book_post_175 (by decide) ?_
              refine mv_iload (pc := 176) B d_Book_post_176 5 rfl ?_
              refine mv_callVv (pc := 178) (n := 2) (ci := 12) (C := R_Book) B (mK_ok sk sv) hNs rfl rfl (c_Book_fault_x l hi _ _ _ (by decide)) rfl (ma_goodc kc_Book_fault) (B.2.2.2.1 _ k_2185) (B.2.2.2.1 _ k_2187) (B.2.2.2.1 _ ks_92) (B.2.2.2.1 _ k_13) ⟨by decide +kernel, by decide +kernel, by decide +kernel⟩ rfl d_Book_post_178 rfl (Nat.le_of_ble_eq_true rfl) ⟨by first | decide | (dsimp only; omega), by first | decide | (dsimp only; omega)⟩ ⟨Nat.le_refl _, Nat.le_refl _⟩ ⟨Nat.le_refl _, Nat.le_refl _⟩ (mv_noH hno _) (fun σ178 h178 => ?_)
              refine mv_lpick [1, 2, 3, 4, 6, 7, 0] rfl ?_
              exact j181 _ _ _ _ _ _ (by first | exact FT.rf | exact FT.rf.of h178)
          have j145 : ∀ (h9 : Int64) (l9 : Int64) (p9 : Int32) (q9 : Int32) (k9 : Int32) , mv_V p l e ({ frames := 14 * f + 12, cells := 0, slots := 0, locals := 500 * f + 500 }) s m ([.ref (al 74)] : List Value).toArray below meth c (mg dA D al ext) 12 0 0 (mv_Q (mg dA D al ext) below s 0 0 (mv_Ui (XO 74 len th d n a1 (10 * f) σ) ("MachineLoomModel$Book$Wrong", al 107) (BF 74 σ))) S114 145 [(0, .ref (al 74)), (1, .int x8), (2, .long h9), (4, .long l9), (6, .int p9), (7, .int q9)] [.int k9] := by
            intro h9 l9 p9 q9 k9
            refine mv_istore (pc := 145) B d_Book_post_145 (by decide) rfl ?_
            refine mv_lload (pc := 147) B d_Book_post_147 4 rfl ?_
            refine mv_ldc2 (pc := 149) (v := -9223372036854775808) B (B.2.2.2.1 _ k_2317) d_Book_post_149 ?_
            refine mv_ladd (pc := 152) B d_Book_post_152 ?_
            refine mv_lload_n (pc := 153) B d_Book_post_153 rfl 3 rfl ?_
            refine mv_ldc2 (pc := 154) (v := -9223372036854775808) B (B.2.2.2.1 _ k_2317) d_Book_post_154 ?_
            refine mv_ladd (pc := 157) B d_Book_post_157 ?_
            refine mv_lcmp (pc := 158) B d_Book_post_158 ?_
            refine mv_if_gt (pc := 159) (tgt := 166) B d_Book_post_159 rfl (fun h159 => ?_) (fun h159 => ?_)
            · skip
              refine mv_iconst (pc := 166) (v := 0) B d_Book_post_166 (by decide) ?_
              refine mv_lpick [1, 2, 3, 4, 5, 6, 0] rfl ?_
              exact j167 _ _ _ _ _ _
            · skip
              refine mv_iconst (pc := 162) (v := 1) B d_Book_post_162 (by decide) ?_
              refine mv_goto (pc := 163) (tgt := 167) B d_Book_post_163 rfl ?_
              refine mv_lpick [1, 2, 3, 4, 5, 6, 0] rfl ?_
              exact j167 _ _ _ _ _ _
          refine mv_aload_n (pc := 114) B d_Book_post_114 rfl 0 rfl ?_
          refine mv_getR (pc := 115) (ci := 12) (C := R_Book) (T := F_Book) (N := 65) B 45 rfl rfl (by decide) i_Book (B.2.2.2.1 _ k_1894) rfl (hS.R.1 _ 45 _ rfl) d_Book_post_115 ?_
          refine mv_iload_n (pc := 118) B d_Book_post_118 rfl 1 rfl ?_
          refine mv_iald (pc := 119) B rfl hb8 d_Book_post_119 ?_
          refine mv_if_eq (pc := 120) (tgt := 140) B d_Book_post_120 rfl (fun h120 => ?_) (fun h120 => ?_)
          · skip
            refine mv_iconst (pc := 140) (v := 1) B d_Book_post_140 (by decide) ?_
            refine mv_goto (pc := 141) (tgt := 145) B d_Book_post_141 rfl ?_
            refine mv_lpick [0, 1, 2, 3, 4, 5] rfl ?_
            exact j145 _ _ _ _ _
          · skip
            refine mv_lload_n (pc := 123) B d_Book_post_123 rfl 2 rfl ?_
            refine mv_lconst (pc := 124) (v := 0) B d_Book_post_124 (by decide) ?_
            refine mv_aload_n (pc := 125) B d_Book_post_125 rfl 0 rfl ?_
            refine mv_getR (pc := 126) (ci := 12) (C := R_Book) (T := F_Book) (N := 65) B 45 rfl rfl (by decide) i_Book (B.2.2.2.1 _ k_1894) rfl (hS.R.1 _ 45 _ rfl) d_Book_post_126 ?_
            refine mv_iload_n (pc := 129) B d_Book_post_129 rfl 1 rfl ?_
            refine mv_iald (pc := 130) B rfl hb8 d_Book_post_130 ?_
            refine mv_iconst (pc := 131) (v := 1) B d_Book_post_131 (by decide) ?_
            refine mv_isub (pc := 132) B d_Book_post_132 ?_
            refine mv_i2l (pc := 133) B d_Book_post_133 ?_
            refine mv_callSNi (pc := 134) (n := 3) B (mK_ok sk sv) hNs (c_Model_in l hi _ _ _ _) rfl (ma_goodc kc_Model_in) (va_Nw.use rfl (hNs.1 _ (List.mem_of_getElem? (i := 7) rfl))) (B.2.2.2.1 _ k_2208) (B.2.2.2.1 _ k_12) ⟨by decide +kernel, by decide +kernel, by decide +kernel⟩ rfl d_Book_post_134 rfl (Nat.le_of_ble_eq_true rfl) ⟨by first | decide | (dsimp only; omega), by first | decide | (dsimp only; omega)⟩ ⟨Nat.le_refl _, Nat.le_refl _⟩ ⟨Nat.le_refl _, Nat.le_refl _⟩ (mv_noH hno _) (fun v134 σ134 h134 => ?_)
            obtain ⟨e134, z134⟩ := h134
            have e134 := e134.symm
            subst e134
            refine mv_if_eq (pc := 137) (tgt := 144) B d_Book_post_137 rfl (fun h137 => ?_) (fun h137 => ?_)
            · skip
              refine mv_iconst (pc := 144) (v := 0) B d_Book_post_144 (by decide) ?_
              refine mv_lpick [0, 1, 2, 3, 4, 5] rfl ?_
              exact j145 _ _ _ _ _
            · skip
              refine mv_iconst (pc := 140) (v := 1) B d_Book_post_140 (by decide) ?_
              refine mv_goto (pc := 141) (tgt := 145) B d_Book_post_141 rfl ?_
              refine mv_lpick [0, 1, 2, 3, 4, 5] rfl ?_
              exact j145 _ _ _ _ _
        refine mv_aload_n (pc := 28) B d_Book_post_28 rfl 1 rfl ?_
        refine mv_getL (pc := 29) (ci := 12) (C := R_Book) (T := F_Book) (N := 65) B 9 rfl rfl (by decide) i_Book (B.2.2.2.1 _ k_1852) rfl d_Book_post_29 ?_
        refine mv_lstore_n (pc := 32) B d_Book_post_32 rfl (by decide) rfl ?_
        refine mv_aload_n (pc := 33) B d_Book_post_33 rfl 2 rfl ?_
        refine mv_getL (pc := 34) (ci := 12) (C := R_Book) (T := F_Book) (N := 65) B 9 rfl rfl (by decide) i_Book (B.2.2.2.1 _ k_1852) rfl d_Book_post_34 ?_
        refine mv_lstore (pc := 37) B d_Book_post_37 (by decide) rfl ?_
        refine mv_aload_n (pc := 39) B d_Book_post_39 rfl 3 rfl ?_
        refine mv_getI (pc := 40) (ci := 12) (C := R_Book) (T := F_Book) (N := 65) B 5 rfl rfl (by decide) i_Book (B.2.2.2.1 _ k_1848) rfl d_Book_post_40 ?_
        refine mv_istore (pc := 43) B d_Book_post_43 (by decide) rfl ?_
        refine mv_aload_n (pc := 45) B d_Book_post_45 rfl 4 rfl ?_
        refine mv_getI (pc := 46) (ci := 12) (C := R_Book) (T := F_Book) (N := 65) B 5 rfl rfl (by decide) i_Book (B.2.2.2.1 _ k_1848) rfl d_Book_post_46 ?_
        refine mv_istore (pc := 49) B d_Book_post_49 (by decide) rfl ?_
        refine mv_aload_n (pc := 51) B d_Book_post_51 rfl 5 rfl ?_
        refine mv_iconst (pc := 52) (v := 2) B d_Book_post_52 (by decide) ?_
        refine mv_callVUv (pc := 53) (n := 1) (ci := 12) (C := R_Book) B (mK_ok sk sv) hNs rfl rfl (c_Book_need_x l hi _ _ len _ _ hS.P.1) rfl (ma_goodc kc_Book_need) (B.2.2.2.1 _ k_2177) (B.2.2.2.1 _ k_2179) (B.2.2.2.1 _ ks_91) (B.2.2.2.1 _ k_13) ⟨by decide +kernel, by decide +kernel, by decide +kernel⟩ rfl d_Book_post_53 rfl (Nat.le_of_ble_eq_true rfl) ⟨by first | decide | (dsimp only; omega), by first | decide | (dsimp only; omega)⟩ ⟨Nat.le_refl _, Nat.le_refl _⟩ ⟨Nat.le_refl _, Nat.le_refl _⟩ (mv_noH hno _) (fun τ9 g9 => Or.inr ⟨rfl, hS.1.2.1.bf.tr g9.bf⟩) (fun σ53 h53 => ?_)
        obtain ⟨k53, d53, t53, u53, q53, g53⟩ := h53
        have w53 := hS.P.w (by rw [k53]; decide)
        rw [hS.P.2.1] at d53
        have hL0 := hS.le
        have hS := hS.pass q53 g53
        refine mv_aload_n (pc := 56) B d_Book_post_56 rfl 5 rfl ?_
        refine mv_getI (pc := 57) (ci := 12) (C := R_Book) (T := F_Book) (N := 65) B 4 rfl rfl (by decide) i_Book (B.2.2.2.1 _ k_1847) rfl d_Book_post_57 ?_
        refine mv_bipush (pc := 60) (v := 58) B d_Book_post_60 (by decide) ?_
        refine mv_icmp_ne (pc := 62) (tgt := 69) B d_Book_post_62 rfl (fun h62 => ?_) (fun h62 => ?_)
        · skip
          refine mv_iconst (pc := 69) (v := 0) B d_Book_post_69 (by decide) ?_
          refine mv_istore (pc := 70) B d_Book_post_70 (by decide) rfl ?_
          refine mv_iload (pc := 72) B d_Book_post_72 0 rfl ?_
          refine mv_if_eq (pc := 74) (tgt := 98) B d_Book_post_74 rfl (fun h74 => ?_) (fun h74 => ?_)
          · skip
            refine mv_lpick [6, 5, 4, 3, 2, 1] rfl ?_
            exact j98 _ _ _ _ _ _ _ hS (by omega) (by omega)
          · skip
            exact absurd rfl h74
        · skip
          refine mv_iconst (pc := 65) (v := 1) B d_Book_post_65 (by decide) ?_
          refine mv_goto (pc := 66) (tgt := 70) B d_Book_post_66 rfl ?_
          refine mv_istore (pc := 70) B d_Book_post_70 (by decide) rfl ?_
          refine mv_iload (pc := 72) B d_Book_post_72 0 rfl ?_
          refine mv_if_eq (pc := 74) (tgt := 98) B d_Book_post_74 rfl (fun h74 => ?_) (fun h74 => ?_)
          · skip
            exact absurd h74 (by decide)
          · skip
            refine mv_aload_n (pc := 77) B d_Book_post_77 rfl 6 rfl ?_
            refine mv_callVUv (pc := 78) (n := 0) (ci := 12) (C := R_Book) B (mK_ok sk sv) hNs rfl rfl (c_Book_pass_x l hi _ len _ _ hS.P.1) rfl (ma_goodc kc_Book_pass) (B.2.2.2.1 _ k_2173) (B.2.2.2.1 _ k_2175) (B.2.2.2.1 _ ks_90) (B.2.2.2.1 _ k_13) ⟨by decide +kernel, by decide +kernel, by decide +kernel⟩ rfl d_Book_post_78 rfl (Nat.le_of_ble_eq_true rfl) ⟨by first | decide | (dsimp only; omega), by first | decide | (dsimp only; omega)⟩ ⟨Nat.le_refl _, Nat.le_refl _⟩ ⟨Nat.le_refl _, Nat.le_refl _⟩ (mv_noH hno _) (fun τ9 g9 => Or.inr ⟨rfl, hS.1.2.1.bf.tr g9.bf⟩) (fun σ78 h78 => ?_)
            have w78 := hS.P.w (by rw [h62]; decide)
            obtain ⟨d78, t78, u78, q78, g78⟩ := h78
            rw [hS.P.2.1] at d78
            have hL0 := hS.le
            have hS := hS.pass q78 g78
            refine mv_aload_n (pc := 81) B d_Book_post_81 rfl 6 rfl ?_
            refine mv_getL (pc := 82) (ci := 12) (C := R_Book) (T := F_Book) (N := 65) B 9 rfl rfl (by decide) i_Book (B.2.2.2.1 _ k_1852) rfl d_Book_post_82 ?_
            refine mv_lstore (pc := 85) B d_Book_post_85 (by decide) rfl ?_
            refine mv_aload_n (pc := 87) B d_Book_post_87 rfl 6 rfl ?_
            refine mv_getI (pc := 88) (ci := 12) (C := R_Book) (T := F_Book) (N := 65) B 5 rfl rfl (by decide) i_Book (B.2.2.2.1 _ k_1848) rfl d_Book_post_88 ?_
            refine mv_istore (pc := 91) B d_Book_post_91 (by decide) rfl ?_
            refine mv_aload_n (pc := 93) B d_Book_post_93 rfl 6 rfl ?_
            refine mv_iconst (pc := 94) (v := 2) B d_Book_post_94 (by decide) ?_
            refine mv_callVUv (pc := 95) (n := 1) (ci := 12) (C := R_Book) B (mK_ok sk sv) hNs rfl rfl (c_Book_need_x l hi _ _ len _ _ hS.P.1) rfl (ma_goodc kc_Book_need) (B.2.2.2.1 _ k_2177) (B.2.2.2.1 _ k_2179) (B.2.2.2.1 _ ks_91) (B.2.2.2.1 _ k_13) ⟨by decide +kernel, by decide +kernel, by decide +kernel⟩ rfl d_Book_post_95 rfl (Nat.le_of_ble_eq_true rfl) ⟨by first | decide | (dsimp only; omega), by first | decide | (dsimp only; omega)⟩ ⟨Nat.le_refl _, Nat.le_refl _⟩ ⟨Nat.le_refl _, Nat.le_refl _⟩ (mv_noH hno _) (fun τ9 g9 => Or.inr ⟨rfl, hS.1.2.1.bf.tr g9.bf⟩) (fun σ95 h95 => ?_)
            obtain ⟨k95, d95, t95, u95, q95, g95⟩ := h95
            have w95 := hS.P.w (by rw [k95]; decide)
            rw [hS.P.2.1] at d95
            have hL0 := hS.le
            have hS := hS.pass q95 g95
            refine mv_lpick [6, 5, 4, 1, 3, 0] rfl ?_
            exact j98 _ _ _ _ _ _ _ hS (by omega) (by omega)
  refine mv_aload_n (pc := 0) B d_Book_post_0 rfl 0 rfl ?_
  refine mv_callVUi (pc := 1) (n := 0) (ci := 12) (C := R_Book) B (mK_ok sk sv) hNs rfl rfl (hPr _ len th _ _ _ _ hf hS.P) rfl (ma_goodc kc_Book_primary) (B.2.2.2.1 _ k_2261) (B.2.2.2.1 _ k_2263) (B.2.2.2.1 _ ks_108) (B.2.2.2.1 _ k_13) ⟨by decide +kernel, by decide +kernel, by decide +kernel⟩ rfl d_Book_post_1 rfl (Nat.le_of_ble_eq_true rfl) ⟨by first | decide | (dsimp only; omega), by first | decide | (dsimp only; omega)⟩ ⟨Nat.le_refl _, Nat.le_refl _⟩ ⟨Nat.le_refl _, Nat.le_refl _⟩ (mv_noH hno _) (fun τ9 g9 => Or.inr ⟨rfl, hS.1.2.1.bf.tr g9⟩) (fun v1 σ1 h1 => ?_)
  obtain ⟨n1, t1, u1, s1, m1, r1, x1⟩ := h1
  have i1 := s1.2.2.2.1
  have hS := hS.sub s1 x1
  refine mv_istore_n (pc := 4) B d_Book_post_4 rfl (by decide) rfl ?_
  refine mv_lpick [0, 1] rfl ?_
  exact lp _ _ _ _ _ _ hS m1 r1 (Nat.lt_succ_self _)
set_option maxHeartbeats 4000000 in
set_option maxRecDepth 100000 in
theorem c_Book_post_y (l : Launch) {dA : FieldType → ClassId} {D : va_G} {al : Nat → Nat} {ext : mv_Sh} {sk sv : Nat → Nat} (hi : mv_inj (mg dA D al ext)) (σ : mv_H) (f len th d n a1 a2 : Nat) (hf : d + f = 61) (hP : PS 108 len th d n a1 a2 σ) (hPr : XPr l dA D al ext sk sv 108 f) : mv_C l y_Book_post (Cond.code y_Book_post b_Book_post 12 (Option.some Jvm.ClassFile.FieldType.int) :: ma) ({ frames := 14 * f + 12, cells := 0, slots := 0, locals := 500 * f + 500 }) (mg dA D al ext) (mK sk sv) [.ref (al 108)] σ (mv_Ui (XO 108 len th d n a1 (10 * f) σ) ("MachineLoomModel$Book$Wrong", al 141) (BF 108 σ)) := by
  refine mv_C.ofV (cc := b_Book_post) (nL := 12) (ret := (Option.some Jvm.ClassFile.FieldType.int)) (by decide +kernel) rfl hi (Nat.le_of_ble_eq_true rfl) ?_
  intro p e s m below meth c B hNs hr hnm hno
  have hS := XT.rf hP
  have hn0 := hP.le.1
  have lp : ∀ (nn : Nat) (S : mv_H) (n8 : Nat) (t8 : Nat) (u8 : Nat) (x8 : Int32) (hS : XT 108 len th σ n a1 S d n8 t8 u8 [(n, n8, 10 * f)]) (hn8 : n < n8) (hx8 : x8.toInt + 1 = n8), len + 1 - t8 < nn → mv_V p l e ({ frames := 14 * f + 12, cells := 0, slots := 0, locals := 500 * f + 500 }) s m ([.ref (al 108)] : List Value).toArray below meth c (mg dA D al ext) 12 0 0 (mv_Q (mg dA D al ext) below s 0 0 (mv_Ui (XO 108 len th d n a1 (10 * f) σ) ("MachineLoomModel$Book$Wrong", al 141) (BF 108 σ))) S 5 [(1, .int x8), (0, .ref (al 108))] [] := by
    intro nn
    induction nn with
    | zero => intro S n8 t8 u8 x8 hS hn8 hx8 hm; exact absurd hm (Nat.not_lt_zero _)
    | succ nn ih =>
      intro S n8 t8 u8 x8 hS hn8 hx8 hm
      refine mv_aload_n (pc := 5) B d_Book_post_5 rfl 1 rfl ?_
      refine mv_getI (pc := 6) (ci := 12) (C := R_Book) (T := F_Book) (N := 65) B 4 rfl rfl (by decide) i_Book (B.2.2.2.1 _ k_1847) rfl d_Book_post_6 ?_
      refine mv_bipush (pc := 9) (v := 91) B d_Book_post_9 (by decide) ?_
      refine mv_icmp_ne (pc := 11) (tgt := 269) B d_Book_post_11 rfl (fun h11 => ?_) (fun h11 => ?_)
      · skip
        refine mv_iload_n (pc := 269) B d_Book_post_269 rfl 0 rfl ?_
        exact mv_iret (pc := 270) B hr rfl d_Book_post_270 (Nat.le_refl _) (Nat.le_refl _) (Or.inl ⟨_, rfl, hS.out hx8 hn8 0 rfl (Nat.le_refl _)⟩)
      · skip
        refine mv_aload_n (pc := 14) B d_Book_post_14 rfl 1 rfl ?_
        refine mv_callVUv (pc := 15) (n := 0) (ci := 12) (C := R_Book) B (mK_ok sk sv) hNs rfl rfl (c_Book_pass_y l hi _ len _ _ hS.P.1) rfl (ma_goodc kc_Book_pass) (B.2.2.2.1 _ k_2173) (B.2.2.2.1 _ k_2175) (B.2.2.2.1 _ ks_90) (B.2.2.2.1 _ k_13) ⟨by decide +kernel, by decide +kernel, by decide +kernel⟩ rfl d_Book_post_15 rfl (Nat.le_of_ble_eq_true rfl) ⟨by first | decide | (dsimp only; omega), by first | decide | (dsimp only; omega)⟩ ⟨Nat.le_refl _, Nat.le_refl _⟩ ⟨Nat.le_refl _, Nat.le_refl _⟩ (mv_noH hno _) (fun τ9 g9 => Or.inr ⟨rfl, hS.1.2.1.bf.tr g9.bf⟩) (fun σ15 h15 => ?_)
        have hL15 := hS.le
        have w15 := hS.P.w (by rw [h11]; decide)
        obtain ⟨d15, t15, u15, q15, g15⟩ := h15
        rw [hS.P.2.1] at d15
        have hL0 := hS.le
        have hS := hS.pass q15 g15
        refine mv_aload_n (pc := 18) B d_Book_post_18 rfl 1 rfl ?_
        refine mv_dup (pc := 19) B d_Book_post_19 rfl ?_
        refine mv_getI (pc := 20) (ci := 12) (C := R_Book) (T := F_Book) (N := 65) B 8 rfl rfl (by decide) i_Book (B.2.2.2.1 _ k_1851) rfl d_Book_post_20 ?_
        refine mv_iconst (pc := 23) (v := 1) B d_Book_post_23 (by decide) ?_
        refine mv_iadd (pc := 24) B d_Book_post_24 ?_
        refine mv_putI (pc := 25) (ci := 12) (C := R_Book) (T := F_Book) (N := 65) B 8 rfl rfl (by decide) i_Book t_Book_ok n_Book (B.2.2.2.1 _ k_1851) rfl rfl rfl rfl d_Book_post_25 ?_
        refine mv_gen (fun S28 eS28 => ?_)
        have hS := hS.dep (hS.P.up (by omega))
        rw [← eS28] at hS
        clear eS28
        have j98 : ∀ (S9 : mv_H) (t9 : Nat) (u9 : Nat) (h9 : Int64) (l9 : Int64) (p9 : Int32) (q9 : Int32) (hS : XT 108 len th σ n a1 S9 (d + 1) n8 t9 u9 [(n, n8, 10 * f)]) (ht9 : t8 < t9) (hb9 : n8 + 1 + a1 ≤ n + t9), mv_V p l e ({ frames := 14 * f + 12, cells := 0, slots := 0, locals := 500 * f + 500 }) s m ([.ref (al 108)] : List Value).toArray below meth c (mg dA D al ext) 12 0 0 (mv_Q (mg dA D al ext) below s 0 0 (mv_Ui (XO 108 len th d n a1 (10 * f) σ) ("MachineLoomModel$Book$Wrong", al 141) (BF 108 σ))) S9 98 [(0, .ref (al 108)), (1, .int x8), (2, .long h9), (4, .long l9), (6, .int p9), (7, .int q9)] [] := by
          intro S9 t9 u9 h9 l9 p9 q9 hS ht9 hb9
          have hL98 := hS.le
          have hb8 : vp_in x8 33000 := i32_in (by omega) (by omega)
          refine mv_aload_n (pc := 98) B d_Book_post_98 rfl 0 rfl ?_
          refine mv_bipush (pc := 99) (v := 93) B d_Book_post_99 (by decide) ?_
          refine mv_callVUv (pc := 101) (n := 1) (ci := 12) (C := R_Book) B (mK_ok sk sv) hNs rfl rfl (c_Book_need_y l hi _ _ len _ _ hS.P.1) rfl (ma_goodc kc_Book_need) (B.2.2.2.1 _ k_2177) (B.2.2.2.1 _ k_2179) (B.2.2.2.1 _ ks_91) (B.2.2.2.1 _ k_13) ⟨by decide +kernel, by decide +kernel, by decide +kernel⟩ rfl d_Book_post_101 rfl (Nat.le_of_ble_eq_true rfl) ⟨by first | decide | (dsimp only; omega), by first | decide | (dsimp only; omega)⟩ ⟨Nat.le_refl _, Nat.le_refl _⟩ ⟨Nat.le_refl _, Nat.le_refl _⟩ (mv_noH hno _) (fun τ9 g9 => Or.inr ⟨rfl, hS.1.2.1.bf.tr g9.bf⟩) (fun σ101 h101 => ?_)
          obtain ⟨k101, d101, t101, u101, q101, g101⟩ := h101
          have w101 := hS.P.w (by rw [k101]; decide)
          rw [hS.P.2.1] at d101
          have hL0 := hS.le
          have hS := hS.pass q101 g101
          refine mv_aload_n (pc := 104) B d_Book_post_104 rfl 0 rfl ?_
          refine mv_dup (pc := 105) B d_Book_post_105 rfl ?_
          refine mv_getI (pc := 106) (ci := 12) (C := R_Book) (T := F_Book) (N := 65) B 8 rfl rfl (by decide) i_Book (B.2.2.2.1 _ k_1851) rfl d_Book_post_106 ?_
          refine mv_iconst (pc := 109) (v := 1) B d_Book_post_109 (by decide) ?_
          refine mv_isub (pc := 110) B d_Book_post_110 ?_
          refine mv_putI (pc := 111) (ci := 12) (C := R_Book) (T := F_Book) (N := 65) B 8 rfl rfl (by decide) i_Book t_Book_ok n_Book (B.2.2.2.1 _ k_1851) rfl rfl rfl rfl d_Book_post_111 ?_
          refine mv_gen (fun S114 eS114 => ?_)
          have hS := hS.dep hS.P.dn
          rw [← eS114] at hS
          clear eS114
          have j262 : ∀ (τ : mv_H) (b9 : Int32) (c9 : Int32) (w9 : Int32) (hT : FT 108 S114 τ), mv_V p l e ({ frames := 14 * f + 12, cells := 0, slots := 0, locals := 500 * f + 500 }) s m ([.ref (al 108)] : List Value).toArray below meth c (mg dA D al ext) 12 0 0 (mv_Q (mg dA D al ext) below s 0 0 (mv_Ui (XO 108 len th d n a1 (10 * f) σ) ("MachineLoomModel$Book$Wrong", al 141) (BF 108 σ))) τ 262 [(0, .ref (al 108))] [.int w9, .int c9, .int b9, .int x8, .int 8, .ref (al 108)] := by
            intro τ b9 c9 w9 hT
            have hS := hS.ft hT
            refine mv_callVi (pc := 262) (n := 5) (ci := 12) (C := R_Book) B (mK_ok sk sv) hNs rfl rfl (c_Book_node_y l hi _ _ _ _ _ _ hS.R (by have := hS.le; omega) (by have := hS.le; omega)) rfl (ma_goodc kc_Book_node) (B.2.2.2.1 _ k_2269) (B.2.2.2.1 _ k_2271) (B.2.2.2.1 _ ks_110) (B.2.2.2.1 _ k_13) ⟨by decide +kernel, by decide +kernel, by decide +kernel⟩ rfl d_Book_post_262 rfl (Nat.le_of_ble_eq_true rfl) ⟨by first | decide | (dsimp only; omega), by first | decide | (dsimp only; omega)⟩ ⟨Nat.le_refl _, Nat.le_refl _⟩ ⟨Nat.le_refl _, Nat.le_refl _⟩ (mv_noH hno _) (fun v262 σ262 h262 => ?_)
            obtain ⟨e262, z262⟩ := h262
            have hL262 := hS.le
            have hN := hS.nodeE z262 (lo := n) (R := 10 * f) (by omega) hn0 (fun zz => XR.pick (hS.2.at 0 rfl zz) hn8 hS.P.nn hx8)
            have hv262 : v262.toInt + 1 = ((n8 + 1 : Nat) : Int) := by rw [e262]; omega
            refine mv_istore_n (pc := 265) B d_Book_post_265 rfl (by decide) rfl ?_
            refine mv_goto (pc := 266) (tgt := 5) B d_Book_post_266 rfl ?_
            refine mv_lpick [0, 1] rfl ?_
            exact ih _ _ _ _ _ hN (by omega) hv262 (by omega)
          have j246 : ∀ (τ : mv_H) (h9 : Int64) (l9 : Int64) (b9 : Int32) (c9 : Int32) (r9 : Int32) (hT : FT 108 S114 τ), mv_V p l e ({ frames := 14 * f + 12, cells := 0, slots := 0, locals := 500 * f + 500 }) s m ([.ref (al 108)] : List Value).toArray below meth c (mg dA D al ext) 12 0 0 (mv_Q (mg dA D al ext) below s 0 0 (mv_Ui (XO 108 len th d n a1 (10 * f) σ) ("MachineLoomModel$Book$Wrong", al 141) (BF 108 σ))) τ 246 [(0, .ref (al 108)), (2, .long h9), (4, .long l9), (11, .int r9)] [.int c9, .int b9, .int x8, .int 8, .ref (al 108)] := by
            intro τ h9 l9 b9 c9 r9 hT
            refine mv_iload (pc := 246) B d_Book_post_246 3 rfl ?_
            refine mv_if_eq (pc := 248) (tgt := 261) B d_Book_post_248 rfl (fun h248 => ?_) (fun h248 => ?_)
            · skip
              refine mv_iconst (pc := 261) (v := 0) B d_Book_post_261 (by decide) ?_
              refine mv_lpick [0] rfl ?_
              exact j262 _ _ _ _ hT
            · skip
              refine mv_lload_n (pc := 251) B d_Book_post_251 rfl 1 rfl ?_
              refine mv_lload (pc := 252) B d_Book_post_252 2 rfl ?_
              refine mv_lsub (pc := 254) B d_Book_post_254 ?_
              refine mv_l2i (pc := 255) B d_Book_post_255 ?_
              refine mv_iconst (pc := 256) (v := 1) B d_Book_post_256 (by decide) ?_
              refine mv_iadd (pc := 257) B d_Book_post_257 ?_
              refine mv_goto (pc := 258) (tgt := 262) B d_Book_post_258 rfl ?_
              refine mv_lpick [0] rfl ?_
              exact j262 _ _ _ _ hT
          have j234 : ∀ (τ : mv_H) (h9 : Int64) (l9 : Int64) (b9 : Int32) (r9 : Int32) (hT : FT 108 S114 τ), mv_V p l e ({ frames := 14 * f + 12, cells := 0, slots := 0, locals := 500 * f + 500 }) s m ([.ref (al 108)] : List Value).toArray below meth c (mg dA D al ext) 12 0 0 (mv_Q (mg dA D al ext) below s 0 0 (mv_Ui (XO 108 len th d n a1 (10 * f) σ) ("MachineLoomModel$Book$Wrong", al 141) (BF 108 σ))) τ 234 [(0, .ref (al 108)), (2, .long h9), (4, .long l9), (11, .int r9)] [.int b9, .int x8, .int 8, .ref (al 108)] := by
            intro τ h9 l9 b9 r9 hT
            refine mv_iload (pc := 234) B d_Book_post_234 3 rfl ?_
            refine mv_if_eq (pc := 236) (tgt := 245) B d_Book_post_236 rfl (fun h236 => ?_) (fun h236 => ?_)
            · skip
              refine mv_iconst (pc := 245) (v := 0) B d_Book_post_245 (by decide) ?_
              refine mv_lpick [0, 1, 2, 3] rfl ?_
              exact j246 _ _ _ _ _ _ hT
            · skip
              refine mv_lload (pc := 239) B d_Book_post_239 2 rfl ?_
              refine mv_l2i (pc := 241) B d_Book_post_241 ?_
              refine mv_goto (pc := 242) (tgt := 246) B d_Book_post_242 rfl ?_
              refine mv_lpick [0, 1, 2, 3] rfl ?_
              exact j246 _ _ _ _ _ _ hT
          have j217 : ∀ (τ : mv_H) (h9 : Int64) (l9 : Int64) (r9 : Int32) (hT : FT 108 S114 τ), mv_V p l e ({ frames := 14 * f + 12, cells := 0, slots := 0, locals := 500 * f + 500 }) s m ([.ref (al 108)] : List Value).toArray below meth c (mg dA D al ext) 12 0 0 (mv_Q (mg dA D al ext) below s 0 0 (mv_Ui (XO 108 len th d n a1 (10 * f) σ) ("MachineLoomModel$Book$Wrong", al 141) (BF 108 σ))) τ 217 [(0, .ref (al 108)), (1, .int x8), (2, .long h9), (4, .long l9)] [.int r9] := by
            intro τ h9 l9 r9 hT
            refine mv_istore (pc := 217) B d_Book_post_217 (by decide) rfl ?_
            refine mv_aload_n (pc := 219) B d_Book_post_219 rfl 1 rfl ?_
            refine mv_bipush (pc := 220) (v := 8) B d_Book_post_220 (by decide) ?_
            refine mv_iload_n (pc := 222) B d_Book_post_222 rfl 2 rfl ?_
            refine mv_iload (pc := 223) B d_Book_post_223 0 rfl ?_
            refine mv_if_eq (pc := 225) (tgt := 233) B d_Book_post_225 rfl (fun h225 => ?_) (fun h225 => ?_)
            · skip
              refine mv_iconst (pc := 233) (v := 0) B d_Book_post_233 (by decide) ?_
              refine mv_lpick [1, 3, 4, 0] rfl ?_
              exact j234 _ _ _ _ _ hT
            · skip
              refine mv_lload_n (pc := 228) B d_Book_post_228 rfl 3 rfl ?_
              refine mv_l2i (pc := 229) B d_Book_post_229 ?_
              refine mv_goto (pc := 230) (tgt := 234) B d_Book_post_230 rfl ?_
              refine mv_lpick [1, 3, 4, 0] rfl ?_
              exact j234 _ _ _ _ _ hT
          have j193 : ∀ (τ : mv_H) (h9 : Int64) (l9 : Int64) (k9 : Int32) (m9 : Int32) (hT : FT 108 S114 τ), mv_V p l e ({ frames := 14 * f + 12, cells := 0, slots := 0, locals := 500 * f + 500 }) s m ([.ref (al 108)] : List Value).toArray below meth c (mg dA D al ext) 12 0 0 (mv_Q (mg dA D al ext) below s 0 0 (mv_Ui (XO 108 len th d n a1 (10 * f) σ) ("MachineLoomModel$Book$Wrong", al 141) (BF 108 σ))) τ 193 [(0, .ref (al 108)), (1, .int x8), (2, .long h9), (4, .long l9), (9, .int k9), (10, .int m9)] [] := by
            intro τ h9 l9 k9 m9 hT
            have hS := hS.ft hT
            refine mv_aload_n (pc := 193) B d_Book_post_193 rfl 0 rfl ?_
            refine mv_getR (pc := 194) (ci := 12) (C := R_Book) (T := F_Book) (N := 65) B 45 rfl rfl (by decide) i_Book (B.2.2.2.1 _ k_1894) rfl (hS.R.1 _ 45 _ rfl) d_Book_post_194 ?_
            refine mv_iload_n (pc := 197) B d_Book_post_197 rfl 1 rfl ?_
            refine mv_iald (pc := 198) B rfl hb8 d_Book_post_198 ?_
            refine mv_if_le (pc := 199) (tgt := 216) B d_Book_post_199 rfl (fun h199 => ?_) (fun h199 => ?_)
            · skip
              refine mv_iconst (pc := 216) (v := 0) B d_Book_post_216 (by decide) ?_
              refine mv_lpick [0, 1, 2, 3] rfl ?_
              exact j217 _ _ _ _ hT
            · skip
              refine mv_iload (pc := 202) B d_Book_post_202 4 rfl ?_
              refine mv_if_eq (pc := 204) (tgt := 216) B d_Book_post_204 rfl (fun h204 => ?_) (fun h204 => ?_)
              · skip
                refine mv_iconst (pc := 216) (v := 0) B d_Book_post_216 (by decide) ?_
                refine mv_lpick [0, 1, 2, 3] rfl ?_
                exact j217 _ _ _ _ hT
              · skip
                refine mv_iload (pc := 207) B d_Book_post_207 5 rfl ?_
                refine mv_if_eq (pc := 209) (tgt := 216) B d_Book_post_209 rfl (fun h209 => ?_) (fun h209 => ?_)
                · skip
                  refine mv_iconst (pc := 216) (v := 0) B d_Book_post_216 (by decide) ?_
                  refine mv_lpick [0, 1, 2, 3] rfl ?_
                  exact j217 _ _ _ _ hT
                · skip
                  refine mv_iconst (pc := 212) (v := 1) B d_Book_post_212 (by decide) ?_
                  refine mv_goto (pc := 213) (tgt := 217) B d_Book_post_213 rfl ?_
                  refine mv_lpick [0, 1, 2, 3] rfl ?_
                  exact j217 _ _ _ _ hT
          have j181 : ∀ (τ : mv_H) (h9 : Int64) (l9 : Int64) (q9 : Int32) (k9 : Int32) (m9 : Int32) (hT : FT 108 S114 τ), mv_V p l e ({ frames := 14 * f + 12, cells := 0, slots := 0, locals := 500 * f + 500 }) s m ([.ref (al 108)] : List Value).toArray below meth c (mg dA D al ext) 12 0 0 (mv_Q (mg dA D al ext) below s 0 0 (mv_Ui (XO 108 len th d n a1 (10 * f) σ) ("MachineLoomModel$Book$Wrong", al 141) (BF 108 σ))) τ 181 [(0, .ref (al 108)), (1, .int x8), (2, .long h9), (4, .long l9), (7, .int q9), (9, .int k9), (10, .int m9)] [] := by
            intro τ h9 l9 q9 k9 m9 hT
            refine mv_iload (pc := 181) B d_Book_post_181 6 rfl ?_
            refine mv_if_ne (pc := 183) (tgt := 193) B d_Book_post_183 rfl (fun h183 => ?_) (fun h183 => ?_)
            · skip
              refine mv_lpick [0, 1, 2, 3, 5, 6] rfl ?_
              exact j193 _ _ _ _ _ (by first | exact hT | exact hT.of h190)
            · skip
              refine mv_aload_n (pc := 186) B d_Book_post_186 rfl 0 rfl ?_
              refine mv_iconst (pc := 187) (v := 3) B d_Book_post_187 (by decide) ?_
              refine mv_iload (pc := 188) B d_Book_post_188 4 rfl ?_
              refine mv_callVv (pc := 190) (n := 2) (ci := 12) (C := R_Book) B (mK_ok sk sv) hNs rfl rfl (c_Book_fault_y l hi _ _ _ (by decide)) rfl (ma_goodc kc_Book_fault) (B.2.2.2.1 _ k_2185) (B.2.2.2.1 _ k_2187) (B.2.2.2.1 _ ks_92) (B.2.2.2.1 _ k_13) ⟨by decide +kernel, by decide +kernel, by decide +kernel⟩ rfl d_Book_post_190 rfl (Nat.le_of_ble_eq_true rfl) ⟨by first | decide | (dsimp only; omega), by first | decide | (dsimp only; omega)⟩ ⟨Nat.le_refl _, Nat.le_refl _⟩ ⟨Nat.le_refl _, Nat.le_refl _⟩ (mv_noH hno _) (fun σ190 h190 => ?_)
              refine mv_lpick [0, 1, 2, 3, 5, 6] rfl ?_
              exact j193 _ _ _ _ _ (by first | exact hT | exact hT.of h190)
          have j167 : ∀ (h9 : Int64) (l9 : Int64) (p9 : Int32) (q9 : Int32) (k9 : Int32) (m9 : Int32) , mv_V p l e ({ frames := 14 * f + 12, cells := 0, slots := 0, locals := 500 * f + 500 }) s m ([.ref (al 108)] : List Value).toArray below meth c (mg dA D al ext) 12 0 0 (mv_Q (mg dA D al ext) below s 0 0 (mv_Ui (XO 108 len th d n a1 (10 * f) σ) ("MachineLoomModel$Book$Wrong", al 141) (BF 108 σ))) S114 167 [(0, .ref (al 108)), (1, .int x8), (2, .long h9), (4, .long l9), (6, .int p9), (7, .int q9), (9, .int k9)] [.int m9] := by
            intro h9 l9 p9 q9 k9 m9
            refine mv_istore (pc := 167) B d_Book_post_167 (by decide) rfl ?_
            refine mv_iload (pc := 169) B d_Book_post_169 7 rfl ?_
            refine mv_if_ne (pc := 171) (tgt := 181) B d_Book_post_171 rfl (fun h171 => ?_) (fun h171 => ?_)
            · skip
              refine mv_lpick [1, 2, 3, 4, 6, 7, 0] rfl ?_
              exact j181 _ _ _ _ _ _ (by first | exact FT.rf | exact FT.rf.of h178)
            · skip
              refine mv_aload_n (pc := 174) B d_Book_post_174 rfl 1 rfl ?_
              refine mv_iconst (pc := 175) (v := 3) B d_Book_post_175 (by decide) ?_
              refine mv_iload (pc := 176) B d_Book_post_176 5 rfl ?_
              refine mv_callVv (pc := 178) (n := 2) (ci := 12) (C := R_Book) B (mK_ok sk sv) hNs rfl rfl (c_Book_fault_y l hi _ _ _ (by decide)) rfl (ma_goodc kc_Book_fault) (B.2.2.2.1 _ k_2185) (B.2.2.2.1 _ k_2187) (B.2.2.2.1 _ ks_92) (B.2.2.2.1 _ k_13) ⟨by decide +kernel, by decide +kernel, by decide +kernel⟩ rfl d_Book_post_178 rfl (Nat.le_of_ble_eq_true rfl) ⟨by first | decide | (dsimp only; omega), by first | decide | (dsimp only; omega)⟩ ⟨Nat.le_refl _, Nat.le_refl _⟩ ⟨Nat.le_refl _, Nat.le_refl _⟩ (mv_noH hno _) (fun σ178 h178 => ?_)
              refine mv_lpick [1, 2, 3, 4, 6, 7, 0] rfl ?_
              exact j181 _ _ _ _ _ _ (by first | exact FT.rf | exact FT.rf.of h178)
          have j145 : ∀ (h9 : Int64) (l9 : Int64) (p9 : Int32) (q9 : Int32) (k9 : Int32) , mv_V p l e ({ frames := 14 * f + 12, cells := 0, slots := 0, locals := 500 * f + 500 }) s m ([.ref (al 108)] : List Value).toArray below meth c (mg dA D al ext) 12 0 0 (mv_Q (mg dA D al ext) below s 0 0 (mv_Ui (XO 108 len th d n a1 (10 * f) σ) ("MachineLoomModel$Book$Wrong", al 141) (BF 108 σ))) S114 145 [(0, .ref (al 108)), (1, .int x8), (2, .long h9), (4, .long l9), (6, .int p9), (7, .int q9)] [.int k9] := by
            intro h9 l9 p9 q9 k9
            refine mv_istore (pc := 145) B d_Book_post_145 (by decide) rfl ?_
            refine mv_lload (pc := 147) B d_Book_post_147 4 rfl ?_
            refine mv_ldc2 (pc := 149) (v := -9223372036854775808) B (B.2.2.2.1 _ k_2317) d_Book_post_149 ?_
            refine mv_ladd (pc := 152) B d_Book_post_152 ?_
            refine mv_lload_n (pc := 153) B d_Book_post_153 rfl 3 rfl ?_
            refine mv_ldc2 (pc := 154) (v := -9223372036854775808) B (B.2.2.2.1 _ k_2317) d_Book_post_154 ?_
            refine mv_ladd (pc := 157) B d_Book_post_157 ?_
            refine mv_lcmp (pc := 158) B d_Book_post_158 ?_
            refine mv_if_gt (pc := 159) (tgt := 166) B d_Book_post_159 rfl (fun h159 => ?_) (fun h159 => ?_)
            · skip
              refine mv_iconst (pc := 166) (v := 0) B d_Book_post_166 (by decide) ?_
              refine mv_lpick [1, 2, 3, 4, 5, 6, 0] rfl ?_
              exact j167 _ _ _ _ _ _
            · skip
              refine mv_iconst (pc := 162) (v := 1) B d_Book_post_162 (by decide) ?_
              refine mv_goto (pc := 163) (tgt := 167) B d_Book_post_163 rfl ?_
              refine mv_lpick [1, 2, 3, 4, 5, 6, 0] rfl ?_
              exact j167 _ _ _ _ _ _
          refine mv_aload_n (pc := 114) B d_Book_post_114 rfl 0 rfl ?_
          refine mv_getR (pc := 115) (ci := 12) (C := R_Book) (T := F_Book) (N := 65) B 45 rfl rfl (by decide) i_Book (B.2.2.2.1 _ k_1894) rfl (hS.R.1 _ 45 _ rfl) d_Book_post_115 ?_
          refine mv_iload_n (pc := 118) B d_Book_post_118 rfl 1 rfl ?_
          refine mv_iald (pc := 119) B rfl hb8 d_Book_post_119 ?_
          refine mv_if_eq (pc := 120) (tgt := 140) B d_Book_post_120 rfl (fun h120 => ?_) (fun h120 => ?_)
          · skip
            refine mv_iconst (pc := 140) (v := 1) B d_Book_post_140 (by decide) ?_
            refine mv_goto (pc := 141) (tgt := 145) B d_Book_post_141 rfl ?_
            refine mv_lpick [0, 1, 2, 3, 4, 5] rfl ?_
            exact j145 _ _ _ _ _
          · skip
            refine mv_lload_n (pc := 123) B d_Book_post_123 rfl 2 rfl ?_
            refine mv_lconst (pc := 124) (v := 0) B d_Book_post_124 (by decide) ?_
            refine mv_aload_n (pc := 125) B d_Book_post_125 rfl 0 rfl ?_
            refine mv_getR (pc := 126) (ci := 12) (C := R_Book) (T := F_Book) (N := 65) B 45 rfl rfl (by decide) i_Book (B.2.2.2.1 _ k_1894) rfl (hS.R.1 _ 45 _ rfl) d_Book_post_126 ?_
            refine mv_iload_n (pc := 129) B d_Book_post_129 rfl 1 rfl ?_
            refine mv_iald (pc := 130) B rfl hb8 d_Book_post_130 ?_
            refine mv_iconst (pc := 131) (v := 1) B d_Book_post_131 (by decide) ?_
            refine mv_isub (pc := 132) B d_Book_post_132 ?_
            refine mv_i2l (pc := 133) B d_Book_post_133 ?_
            refine mv_callSNi (pc := 134) (n := 3) B (mK_ok sk sv) hNs (c_Model_in l hi _ _ _ _) rfl (ma_goodc kc_Model_in) (va_Nw.use rfl (hNs.1 _ (List.mem_of_getElem? (i := 7) rfl))) (B.2.2.2.1 _ k_2208) (B.2.2.2.1 _ k_12) ⟨by decide +kernel, by decide +kernel, by decide +kernel⟩ rfl d_Book_post_134 rfl (Nat.le_of_ble_eq_true rfl) ⟨by first | decide | (dsimp only; omega), by first | decide | (dsimp only; omega)⟩ ⟨Nat.le_refl _, Nat.le_refl _⟩ ⟨Nat.le_refl _, Nat.le_refl _⟩ (mv_noH hno _) (fun v134 σ134 h134 => ?_)
            obtain ⟨e134, z134⟩ := h134
            have e134 := e134.symm
            subst e134
            refine mv_if_eq (pc := 137) (tgt := 144) B d_Book_post_137 rfl (fun h137 => ?_) (fun h137 => ?_)
            · skip
              refine mv_iconst (pc := 144) (v := 0) B d_Book_post_144 (by decide) ?_
              refine mv_lpick [0, 1, 2, 3, 4, 5] rfl ?_
              exact j145 _ _ _ _ _
            · skip
              refine mv_iconst (pc := 140) (v := 1) B d_Book_post_140 (by decide) ?_
              refine mv_goto (pc := 141) (tgt := 145) B d_Book_post_141 rfl ?_
              refine mv_lpick [0, 1, 2, 3, 4, 5] rfl ?_
              exact j145 _ _ _ _ _
        refine mv_aload_n (pc := 28) B d_Book_post_28 rfl 1 rfl ?_
        refine mv_getL (pc := 29) (ci := 12) (C := R_Book) (T := F_Book) (N := 65) B 9 rfl rfl (by decide) i_Book (B.2.2.2.1 _ k_1852) rfl d_Book_post_29 ?_
        refine mv_lstore_n (pc := 32) B d_Book_post_32 rfl (by decide) rfl ?_
        refine mv_aload_n (pc := 33) B d_Book_post_33 rfl 2 rfl ?_
        refine mv_getL (pc := 34) (ci := 12) (C := R_Book) (T := F_Book) (N := 65) B 9 rfl rfl (by decide) i_Book (B.2.2.2.1 _ k_1852) rfl d_Book_post_34 ?_
        refine mv_lstore (pc := 37) B d_Book_post_37 (by decide) rfl ?_
        refine mv_aload_n (pc := 39) B d_Book_post_39 rfl 3 rfl ?_
        refine mv_getI (pc := 40) (ci := 12) (C := R_Book) (T := F_Book) (N := 65) B 5 rfl rfl (by decide) i_Book (B.2.2.2.1 _ k_1848) rfl d_Book_post_40 ?_
        refine mv_istore (pc := 43) B d_Book_post_43 (by decide) rfl ?_
        refine mv_aload_n (pc := 45) B d_Book_post_45 rfl 4 rfl ?_
        refine mv_getI (pc := 46) (ci := 12) (C := R_Book) (T := F_Book) (N := 65) B 5 rfl rfl (by decide) i_Book (B.2.2.2.1 _ k_1848) rfl d_Book_post_46 ?_
        refine mv_istore (pc := 49) B d_Book_post_49 (by decide) rfl ?_
        refine mv_aload_n (pc := 51) B d_Book_post_51 rfl 5 rfl ?_
        refine mv_iconst (pc := 52) (v := 2) B d_Book_post_52 (by decide) ?_
        refine mv_callVUv (pc := 53) (n := 1) (ci := 12) (C := R_Book) B (mK_ok sk sv) hNs rfl rfl (c_Book_need_y l hi _ _ len _ _ hS.P.1) rfl (ma_goodc kc_Book_need) (B.2.2.2.1 _ k_2177) (B.2.2.2.1 _ k_2179) (B.2.2.2.1 _ ks_91) (B.2.2.2.1 _ k_13) ⟨by decide +kernel, by decide +kernel, by decide +kernel⟩ rfl d_Book_post_53 rfl (Nat.le_of_ble_eq_true rfl) ⟨by first | decide | (dsimp only; omega), by first | decide | (dsimp only; omega)⟩ ⟨Nat.le_refl _, Nat.le_refl _⟩ ⟨Nat.le_refl _, Nat.le_refl _⟩ (mv_noH hno _) (fun τ9 g9 => Or.inr ⟨rfl, hS.1.2.1.bf.tr g9.bf⟩) (fun σ53 h53 => ?_)
        obtain ⟨k53, d53, t53, u53, q53, g53⟩ := h53
        have w53 := hS.P.w (by rw [k53]; decide)
        rw [hS.P.2.1] at d53
        have hL0 := hS.le
        have hS := hS.pass q53 g53
        refine mv_aload_n (pc := 56) B d_Book_post_56 rfl 5 rfl ?_
        refine mv_getI (pc := 57) (ci := 12) (C := R_Book) (T := F_Book) (N := 65) B 4 rfl rfl (by decide) i_Book (B.2.2.2.1 _ k_1847) rfl d_Book_post_57 ?_
        refine mv_bipush (pc := 60) (v := 58) B d_Book_post_60 (by decide) ?_
        refine mv_icmp_ne (pc := 62) (tgt := 69) B d_Book_post_62 rfl (fun h62 => ?_) (fun h62 => ?_)
        · skip
          refine mv_iconst (pc := 69) (v := 0) B d_Book_post_69 (by decide) ?_
          refine mv_istore (pc := 70) B d_Book_post_70 (by decide) rfl ?_
          refine mv_iload (pc := 72) B d_Book_post_72 0 rfl ?_
          refine mv_if_eq (pc := 74) (tgt := 98) B d_Book_post_74 rfl (fun h74 => ?_) (fun h74 => ?_)
          · skip
            refine mv_lpick [6, 5, 4, 3, 2, 1] rfl ?_
            exact j98 _ _ _ _ _ _ _ hS (by omega) (by omega)
          · skip
            exact absurd rfl h74
        · skip
          refine mv_iconst (pc := 65) (v := 1) B d_Book_post_65 (by decide) ?_
          refine mv_goto (pc := 66) (tgt := 70) B d_Book_post_66 rfl ?_
          refine mv_istore (pc := 70) B d_Book_post_70 (by decide) rfl ?_
          refine mv_iload (pc := 72) B d_Book_post_72 0 rfl ?_
          refine mv_if_eq (pc := 74) (tgt := 98) B d_Book_post_74 rfl (fun h74 => ?_) (fun h74 => ?_)
          · skip
            exact absurd h74 (by decide)
          · skip
            refine mv_aload_n (pc := 77) B d_Book_post_77 rfl 6 rfl ?_
            refine mv_callVUv (pc := 78) (n := 0) (ci := 12) (C := R_Book) B (mK_ok sk sv) hNs rfl rfl (c_Book_pass_y l hi _ len _ _ hS.P.1) rfl (ma_goodc kc_Book_pass) (B.2.2.2.1 _ k_2173) (B.2.2.2.1 _ k_2175) (B.2.2.2.1 _ ks_90) (B.2.2.2.1 _ k_13) ⟨by decide +kernel, by decide +kernel, by decide +kernel⟩ rfl d_Book_post_78 rfl (Nat.le_of_ble_eq_true rfl) ⟨by first | decide | (dsimp only; omega), by first | decide | (dsimp only; omega)⟩ ⟨Nat.le_refl _, Nat.le_refl _⟩ ⟨Nat.le_refl _, Nat.le_refl _⟩ (mv_noH hno _) (fun τ9 g9 => Or.inr ⟨rfl, hS.1.2.1.bf.tr g9.bf⟩) (fun σ78 h78 => ?_)
            have w78 := hS.P.w (by rw [h62]; decide)
            obtain ⟨d78, t78, u78, q78, g78⟩ := h78
            rw [hS.P.2.1] at d78
            have hL0 := hS.le
            have hS := hS.pass q78 g78
            refine mv_aload_n (pc := 81) B d_Book_post_81 rfl 6 rfl ?_
            refine mv_getL (pc := 82) (ci := 12) (C := R_Book) (T := F_Book) (N := 65) B 9 rfl rfl (by decide) i_Book (B.2.2.2.1 _ k_1852) rfl d_Book_post_82 ?_
            refine mv_lstore (pc := 85) B d_Book_post_85 (by decide) rfl ?_
            refine mv_aload_n (pc := 87) B d_Book_post_87 rfl 6 rfl ?_
            refine mv_getI (pc := 88) (ci := 12) (C := R_Book) (T := F_Book) (N := 65) B 5 rfl rfl (by decide) i_Book (B.2.2.2.1 _ k_1848) rfl d_Book_post_88 ?_
            refine mv_istore (pc := 91) B d_Book_post_91 (by decide) rfl ?_
            refine mv_aload_n (pc := 93) B d_Book_post_93 rfl 6 rfl ?_
            refine mv_iconst (pc := 94) (v := 2) B d_Book_post_94 (by decide) ?_
            refine mv_callVUv (pc := 95) (n := 1) (ci := 12) (C := R_Book) B (mK_ok sk sv) hNs rfl rfl (c_Book_need_y l hi _ _ len _ _ hS.P.1) rfl (ma_goodc kc_Book_need) (B.2.2.2.1 _ k_2177) (B.2.2.2.1 _ k_2179) (B.2.2.2.1 _ ks_91) (B.2.2.2.1 _ k_13) ⟨by decide +kernel, by decide +kernel, by decide +kernel⟩ rfl d_Book_post_95 rfl (Nat.le_of_ble_eq_true rfl) ⟨by first | decide | (dsimp only; omega), by first | decide | (dsimp only; omega)⟩ ⟨Nat.le_refl _, Nat.le_refl _⟩ ⟨Nat.le_refl _, Nat.le_refl _⟩ (mv_noH hno _) (fun τ9 g9 => Or.inr ⟨rfl, hS.1.2.1.bf.tr g9.bf⟩) (fun σ95 h95 => ?_)
            obtain ⟨k95, d95, t95, u95, q95, g95⟩ := h95
            have w95 := hS.P.w (by rw [k95]; decide)
            rw [hS.P.2.1] at d95
            have hL0 := hS.le
            have hS := hS.pass q95 g95
            refine mv_lpick [6, 5, 4, 1, 3, 0] rfl ?_
            exact j98 _ _ _ _ _ _ _ hS (by omega) (by omega)
  refine mv_aload_n (pc := 0) B d_Book_post_0 rfl 0 rfl ?_
  refine mv_callVUi (pc := 1) (n := 0) (ci := 12) (C := R_Book) B (mK_ok sk sv) hNs rfl rfl (hPr _ len th _ _ _ _ hf hS.P) rfl (ma_goodc kc_Book_primary) (B.2.2.2.1 _ k_2261) (B.2.2.2.1 _ k_2263) (B.2.2.2.1 _ ks_108) (B.2.2.2.1 _ k_13) ⟨by decide +kernel, by decide +kernel, by decide +kernel⟩ rfl d_Book_post_1 rfl (Nat.le_of_ble_eq_true rfl) ⟨by first | decide | (dsimp only; omega), by first | decide | (dsimp only; omega)⟩ ⟨Nat.le_refl _, Nat.le_refl _⟩ ⟨Nat.le_refl _, Nat.le_refl _⟩ (mv_noH hno _) (fun τ9 g9 => Or.inr ⟨rfl, hS.1.2.1.bf.tr g9⟩) (fun v1 σ1 h1 => ?_)
  obtain ⟨n1, t1, u1, s1, m1, r1, x1⟩ := h1
  have i1 := s1.2.2.2.1
  have hS := hS.sub s1 x1
  refine mv_istore_n (pc := 4) B d_Book_post_4 rfl (by decide) rfl ?_
  refine mv_lpick [0, 1] rfl ?_
  exact lp _ _ _ _ _ _ hS m1 r1 (Nat.lt_succ_self _)
theorem k_2253 : (Jvm.Cond.methodLink "MachineLoomModel$Book" (275 : Nat) ({ cls := "MachineLoomModel$Book", name := "unary", desc := "()I" } : Jvm.MethodName)) ∈ ma := ma_of (tb_10 _ (List.mem_of_getElem? (i := 93) rfl)) rfl
theorem k_2255 : (Jvm.Cond.instanceMethod ({ cls := "MachineLoomModel$Book", name := "unary", desc := "()I" } : Jvm.MethodName)) ∈ ma := ma_of (tb_10 _ (List.mem_of_getElem? (i := 95) rfl)) rfl
theorem ks_106 : Cond.selects "MachineLoomModel$Book" ⟨"MachineLoomModel$Book", "unary", "()I"⟩ ⟨"MachineLoomModel$Book", "unary", "()I"⟩ ∈ ma := ma_sel 106 rfl rfl
theorem k_2257 : (Jvm.Cond.methodLink "MachineLoomModel$Book" (290 : Nat) ({ cls := "MachineLoomModel$Book", name := "post", desc := "()I" } : Jvm.MethodName)) ∈ ma := ma_of (tb_10 _ (List.mem_of_getElem? (i := 97) rfl)) rfl
theorem k_2259 : (Jvm.Cond.instanceMethod ({ cls := "MachineLoomModel$Book", name := "post", desc := "()I" } : Jvm.MethodName)) ∈ ma := ma_of (tb_10 _ (List.mem_of_getElem? (i := 99) rfl)) rfl
theorem ks_107 : Cond.selects "MachineLoomModel$Book" ⟨"MachineLoomModel$Book", "post", "()I"⟩ ⟨"MachineLoomModel$Book", "post", "()I"⟩ ∈ ma := ma_sel 107 rfl rfl
theorem d_Book_unary_0 : decode b_Book_unary 0 = .ok (.aload_n 0, 1) := by decide +kernel
theorem d_Book_unary_1 : decode b_Book_unary 1 = .ok (.getfield 151, 3) := by decide +kernel
theorem d_Book_unary_4 : decode b_Book_unary 4 = .ok (.bipush 45, 2) := by decide +kernel
theorem d_Book_unary_6 : decode b_Book_unary 6 = .ok (.if_icmp .eq (26), 3) := by decide +kernel
theorem d_Book_unary_9 : decode b_Book_unary 9 = .ok (.aload_n 0, 1) := by decide +kernel
theorem d_Book_unary_10 : decode b_Book_unary 10 = .ok (.getfield 151, 3) := by decide +kernel
theorem d_Book_unary_13 : decode b_Book_unary 13 = .ok (.bipush 126, 2) := by decide +kernel
theorem d_Book_unary_15 : decode b_Book_unary 15 = .ok (.if_icmp .eq (17), 3) := by decide +kernel
theorem d_Book_unary_18 : decode b_Book_unary 18 = .ok (.aload_n 0, 1) := by decide +kernel
theorem d_Book_unary_19 : decode b_Book_unary 19 = .ok (.getfield 151, 3) := by decide +kernel
theorem d_Book_unary_22 : decode b_Book_unary 22 = .ok (.bipush 33, 2) := by decide +kernel
theorem d_Book_unary_24 : decode b_Book_unary 24 = .ok (.if_icmp .eq (8), 3) := by decide +kernel
theorem d_Book_unary_27 : decode b_Book_unary 27 = .ok (.aload_n 0, 1) := by decide +kernel
theorem d_Book_unary_28 : decode b_Book_unary 28 = .ok (.invokevirtual 290, 3) := by decide +kernel
theorem d_Book_unary_31 : decode b_Book_unary 31 = .ok (.ireturn, 1) := by decide +kernel
theorem d_Book_unary_32 : decode b_Book_unary 32 = .ok (.aload_n 0, 1) := by decide +kernel
theorem d_Book_unary_33 : decode b_Book_unary 33 = .ok (.getfield 151, 3) := by decide +kernel
theorem d_Book_unary_36 : decode b_Book_unary 36 = .ok (.istore_n 1, 1) := by decide +kernel
theorem d_Book_unary_37 : decode b_Book_unary 37 = .ok (.aload_n 0, 1) := by decide +kernel
theorem d_Book_unary_38 : decode b_Book_unary 38 = .ok (.getfield 174, 3) := by decide +kernel
theorem d_Book_unary_41 : decode b_Book_unary 41 = .ok (.istore_n 2, 1) := by decide +kernel
theorem d_Book_unary_42 : decode b_Book_unary 42 = .ok (.aload_n 0, 1) := by decide +kernel
theorem d_Book_unary_43 : decode b_Book_unary 43 = .ok (.invokevirtual 203, 3) := by decide +kernel
theorem d_Book_unary_46 : decode b_Book_unary 46 = .ok (.aload_n 0, 1) := by decide +kernel
theorem d_Book_unary_47 : decode b_Book_unary 47 = .ok (.dup, 1) := by decide +kernel
theorem d_Book_unary_48 : decode b_Book_unary 48 = .ok (.getfield 197, 3) := by decide +kernel
theorem d_Book_unary_51 : decode b_Book_unary 51 = .ok (.iconst 1, 1) := by decide +kernel
theorem d_Book_unary_52 : decode b_Book_unary 52 = .ok (.iadd, 1) := by decide +kernel
theorem d_Book_unary_53 : decode b_Book_unary 53 = .ok (.putfield 197, 3) := by decide +kernel
theorem d_Book_unary_56 : decode b_Book_unary 56 = .ok (.aload_n 0, 1) := by decide +kernel
theorem d_Book_unary_57 : decode b_Book_unary 57 = .ok (.invokevirtual 275, 3) := by decide +kernel
theorem d_Book_unary_60 : decode b_Book_unary 60 = .ok (.istore_n 3, 1) := by decide +kernel
theorem d_Book_unary_61 : decode b_Book_unary 61 = .ok (.aload_n 0, 1) := by decide +kernel
theorem d_Book_unary_62 : decode b_Book_unary 62 = .ok (.dup, 1) := by decide +kernel
theorem d_Book_unary_63 : decode b_Book_unary 63 = .ok (.getfield 197, 3) := by decide +kernel
theorem d_Book_unary_66 : decode b_Book_unary 66 = .ok (.iconst 1, 1) := by decide +kernel
theorem d_Book_unary_67 : decode b_Book_unary 67 = .ok (.isub, 1) := by decide +kernel
theorem d_Book_unary_68 : decode b_Book_unary 68 = .ok (.putfield 197, 3) := by decide +kernel
theorem d_Book_unary_71 : decode b_Book_unary 71 = .ok (.aload_n 0, 1) := by decide +kernel
theorem d_Book_unary_72 : decode b_Book_unary 72 = .ok (.getfield 97, 3) := by decide +kernel
theorem d_Book_unary_75 : decode b_Book_unary 75 = .ok (.iload_n 3, 1) := by decide +kernel
theorem d_Book_unary_76 : decode b_Book_unary 76 = .ok (.iaload, 1) := by decide +kernel
theorem d_Book_unary_77 : decode b_Book_unary 77 = .ok (.ifCond .le (23), 3) := by decide +kernel
theorem d_Book_unary_80 : decode b_Book_unary 80 = .ok (.iload_n 1, 1) := by decide +kernel
theorem d_Book_unary_81 : decode b_Book_unary 81 = .ok (.bipush 33, 2) := by decide +kernel
theorem d_Book_unary_83 : decode b_Book_unary 83 = .ok (.if_icmp .ne (13), 3) := by decide +kernel
theorem d_Book_unary_86 : decode b_Book_unary 86 = .ok (.aload_n 0, 1) := by decide +kernel
theorem d_Book_unary_87 : decode b_Book_unary 87 = .ok (.getfield 97, 3) := by decide +kernel
theorem d_Book_unary_90 : decode b_Book_unary 90 = .ok (.iload_n 3, 1) := by decide +kernel
theorem d_Book_unary_91 : decode b_Book_unary 91 = .ok (.iaload, 1) := by decide +kernel
theorem d_Book_unary_92 : decode b_Book_unary 92 = .ok (.iconst 1, 1) := by decide +kernel
theorem d_Book_unary_93 : decode b_Book_unary 93 = .ok (.if_icmp .ne (7), 3) := by decide +kernel
theorem d_Book_unary_96 : decode b_Book_unary 96 = .ok (.iconst 1, 1) := by decide +kernel
theorem d_Book_unary_97 : decode b_Book_unary 97 = .ok (.goto (4), 3) := by decide +kernel
theorem d_Book_unary_100 : decode b_Book_unary 100 = .ok (.iconst 0, 1) := by decide +kernel
theorem d_Book_unary_101 : decode b_Book_unary 101 = .ok (.istore 4, 2) := by decide +kernel
theorem d_Book_unary_103 : decode b_Book_unary 103 = .ok (.aload_n 0, 1) := by decide +kernel
theorem d_Book_unary_104 : decode b_Book_unary 104 = .ok (.getfield 97, 3) := by decide +kernel
theorem d_Book_unary_107 : decode b_Book_unary 107 = .ok (.iload_n 3, 1) := by decide +kernel
theorem d_Book_unary_108 : decode b_Book_unary 108 = .ok (.iaload, 1) := by decide +kernel
theorem d_Book_unary_109 : decode b_Book_unary 109 = .ok (.ifCond .le (14), 3) := by decide +kernel
theorem d_Book_unary_112 : decode b_Book_unary 112 = .ok (.iload 4, 2) := by decide +kernel
theorem d_Book_unary_114 : decode b_Book_unary 114 = .ok (.ifCond .ne (9), 3) := by decide +kernel
theorem d_Book_unary_117 : decode b_Book_unary 117 = .ok (.aload_n 0, 1) := by decide +kernel
theorem d_Book_unary_118 : decode b_Book_unary 118 = .ok (.iconst 4, 1) := by decide +kernel
theorem d_Book_unary_119 : decode b_Book_unary 119 = .ok (.iload_n 2, 1) := by decide +kernel
theorem d_Book_unary_120 : decode b_Book_unary 120 = .ok (.invokevirtual 267, 3) := by decide +kernel
theorem d_Book_unary_123 : decode b_Book_unary 123 = .ok (.aload_n 0, 1) := by decide +kernel
theorem d_Book_unary_124 : decode b_Book_unary 124 = .ok (.bipush 6, 2) := by decide +kernel
theorem d_Book_unary_126 : decode b_Book_unary 126 = .ok (.iload_n 3, 1) := by decide +kernel
theorem d_Book_unary_127 : decode b_Book_unary 127 = .ok (.iload_n 1, 1) := by decide +kernel
theorem d_Book_unary_128 : decode b_Book_unary 128 = .ok (.iconst 0, 1) := by decide +kernel
theorem d_Book_unary_129 : decode b_Book_unary 129 = .ok (.iload 4, 2) := by decide +kernel
theorem d_Book_unary_131 : decode b_Book_unary 131 = .ok (.ifCond .eq (12), 3) := by decide +kernel
theorem d_Book_unary_134 : decode b_Book_unary 134 = .ok (.aload_n 0, 1) := by decide +kernel
theorem d_Book_unary_135 : decode b_Book_unary 135 = .ok (.getfield 97, 3) := by decide +kernel
theorem d_Book_unary_138 : decode b_Book_unary 138 = .ok (.iload_n 3, 1) := by decide +kernel
theorem d_Book_unary_139 : decode b_Book_unary 139 = .ok (.iaload, 1) := by decide +kernel
theorem d_Book_unary_140 : decode b_Book_unary 140 = .ok (.goto (4), 3) := by decide +kernel
theorem d_Book_unary_143 : decode b_Book_unary 143 = .ok (.iconst 0, 1) := by decide +kernel
theorem d_Book_unary_144 : decode b_Book_unary 144 = .ok (.invokevirtual 271, 3) := by decide +kernel
theorem d_Book_unary_147 : decode b_Book_unary 147 = .ok (.ireturn, 1) := by decide +kernel
set_option maxHeartbeats 4000000 in
set_option maxRecDepth 100000 in
theorem c_Book_unary_x (l : Launch) {dA : FieldType → ClassId} {D : va_G} {al : Nat → Nat} {ext : mv_Sh} {sk sv : Nat → Nat} (hi : mv_inj (mg dA D al ext)) (σ : mv_H) (f len th d n a1 a2 : Nat) (hf : d + f = 61) (hP : PS 74 len th d n a1 a2 σ) (ihU : ∀ g, g + 1 = f → XU l dA D al ext sk sv 74 g) (hPo : XPo l dA D al ext sk sv 74 f) : mv_C l y_Book_unary (Cond.code y_Book_unary b_Book_unary 5 (Option.some Jvm.ClassFile.FieldType.int) :: ma) ({ frames := 14 * f + 13, cells := 0, slots := 0, locals := 500 * f + 550 }) (mg dA D al ext) (mK sk sv) [.ref (al 74)] σ (mv_Ui (XO 74 len th d n a1 (10 * f) σ) ("MachineLoomModel$Book$Wrong", al 107) (BF 74 σ)) := by
  refine mv_C.ofV (cc := b_Book_unary) (nL := 5) (ret := (Option.some Jvm.ClassFile.FieldType.int)) (by decide +kernel) rfl hi (Nat.le_of_ble_eq_true rfl) ?_
  intro p e s m below meth c B hNs hr hnm hno
  have hS := XT.rf hP
  have hn0 := hP.le.1
  have j32 : ∀  (hk : ¬ (mv_i σ 74 4 = 0 ∨ mv_i σ 74 4 = -1)), mv_V p l e ({ frames := 14 * f + 13, cells := 0, slots := 0, locals := 500 * f + 550 }) s m ([.ref (al 74)] : List Value).toArray below meth c (mg dA D al ext) 5 0 0 (mv_Q (mg dA D al ext) below s 0 0 (mv_Ui (XO 74 len th d n a1 (10 * f) σ) ("MachineLoomModel$Book$Wrong", al 107) (BF 74 σ))) σ 32 [(0, .ref (al 74))] [] := by
    intro hk
    refine mv_aload_n (pc := 32) B d_Book_unary_32 rfl 0 rfl ?_
    refine mv_getI (pc := 33) (ci := 12) (C := R_Book) (T := F_Book) (N := 65) B 4 rfl rfl (by decide) i_Book (B.2.2.2.1 _ k_1847) rfl d_Book_unary_33 ?_
    refine mv_istore_n (pc := 36) B d_Book_unary_36 rfl (by decide) rfl ?_
    refine mv_aload_n (pc := 37) B d_Book_unary_37 rfl 1 rfl ?_
    refine mv_getI (pc := 38) (ci := 12) (C := R_Book) (T := F_Book) (N := 65) B 5 rfl rfl (by decide) i_Book (B.2.2.2.1 _ k_1848) rfl d_Book_unary_38 ?_
    refine mv_istore_n (pc := 41) B d_Book_unary_41 rfl (by decide) rfl ?_
    refine mv_aload_n (pc := 42) B d_Book_unary_42 rfl 2 rfl ?_
    refine mv_callVUv (pc := 43) (n := 0) (ci := 12) (C := R_Book) B (mK_ok sk sv) hNs rfl rfl (c_Book_pass_x l hi _ len _ _ hS.P.1) rfl (ma_goodc kc_Book_pass) (B.2.2.2.1 _ k_2173) (B.2.2.2.1 _ k_2175) (B.2.2.2.1 _ ks_90) (B.2.2.2.1 _ k_13) ⟨by decide +kernel, by decide +kernel, by decide +kernel⟩ rfl d_Book_unary_43 rfl (Nat.le_of_ble_eq_true rfl) ⟨by first | decide | (dsimp only; omega), by first | decide | (dsimp only; omega)⟩ ⟨Nat.le_refl _, Nat.le_refl _⟩ ⟨Nat.le_refl _, Nat.le_refl _⟩ (mv_noH hno _) (fun τ9 g9 => Or.inr ⟨rfl, hS.1.2.1.bf.tr g9.bf⟩) (fun σ43 h43 => ?_)
    have w43 := hS.P.w (by exact hk)
    obtain ⟨d43, t43, u43, q43, g43⟩ := h43
    rw [hS.P.2.1] at d43
    have hL0 := hS.le
    have hS := hS.pass q43 g43
    refine mv_aload_n (pc := 46) B d_Book_unary_46 rfl 2 rfl ?_
    refine mv_dup (pc := 47) B d_Book_unary_47 rfl ?_
    refine mv_getI (pc := 48) (ci := 12) (C := R_Book) (T := F_Book) (N := 65) B 8 rfl rfl (by decide) i_Book (B.2.2.2.1 _ k_1851) rfl d_Book_unary_48 ?_
    refine mv_iconst (pc := 51) (v := 1) B d_Book_unary_51 (by decide) ?_
    refine mv_iadd (pc := 52) B d_Book_unary_52 ?_
    refine mv_putI (pc := 53) (ci := 12) (C := R_Book) (T := F_Book) (N := 65) B 8 rfl rfl (by decide) i_Book t_Book_ok n_Book (B.2.2.2.1 _ k_1851) rfl rfl rfl rfl d_Book_unary_53 ?_
    refine mv_gen (fun S56 eS56 => ?_)
    have hS := hS.dep (hS.P.up (by omega))
    rw [← eS56] at hS
    clear eS56
    refine mv_aload_n (pc := 56) B d_Book_unary_56 rfl 2 rfl ?_
    refine mv_callVUi (pc := 57) (n := 0) (ci := 12) (C := R_Book) B (mK_ok sk sv) hNs rfl rfl (ihU (f - 1) (by omega) _ len th _ _ _ _ (by omega) hS.P) rfl (ma_goodc kc_Book_unary) (B.2.2.2.1 _ k_2253) (B.2.2.2.1 _ k_2255) (B.2.2.2.1 _ ks_106) (B.2.2.2.1 _ k_13) ⟨by decide +kernel, by decide +kernel, by decide +kernel⟩ rfl d_Book_unary_57 rfl (Nat.le_of_ble_eq_true rfl) ⟨by first | decide | (dsimp only; omega), by first | decide | (dsimp only; omega)⟩ ⟨Nat.le_refl _, Nat.le_refl _⟩ ⟨Nat.le_refl _, Nat.le_refl _⟩ (mv_noH hno _) (fun τ9 g9 => Or.inr ⟨rfl, hS.1.2.1.bf.tr g9⟩) (fun v57 σ57 h57 => ?_)
    obtain ⟨n57, t57, u57, s57, m57, r57, x57⟩ := h57
    have i57 := s57.2.2.2.1
    have hS := hS.sub s57 x57
    have hL57 := hS.le
    have hb57 : vp_in v57 33000 := i32_in (by omega) (by omega)
    refine mv_istore_n (pc := 60) B d_Book_unary_60 rfl (by decide) rfl ?_
    refine mv_aload_n (pc := 61) B d_Book_unary_61 rfl 3 rfl ?_
    refine mv_dup (pc := 62) B d_Book_unary_62 rfl ?_
    refine mv_getI (pc := 63) (ci := 12) (C := R_Book) (T := F_Book) (N := 65) B 8 rfl rfl (by decide) i_Book (B.2.2.2.1 _ k_1851) rfl d_Book_unary_63 ?_
    refine mv_iconst (pc := 66) (v := 1) B d_Book_unary_66 (by decide) ?_
    refine mv_isub (pc := 67) B d_Book_unary_67 ?_
    refine mv_putI (pc := 68) (ci := 12) (C := R_Book) (T := F_Book) (N := 65) B 8 rfl rfl (by decide) i_Book t_Book_ok n_Book (B.2.2.2.1 _ k_1851) rfl rfl rfl rfl d_Book_unary_68 ?_
    refine mv_gen (fun S71 eS71 => ?_)
    have hS := hS.dep hS.P.dn
    rw [← eS71] at hS
    clear eS71
    have j123 : ∀ (τ : mv_H) (o9 : Int32) (r9 : Int32) (hT : FT 74 S71 τ), mv_V p l e ({ frames := 14 * f + 13, cells := 0, slots := 0, locals := 500 * f + 550 }) s m ([.ref (al 74)] : List Value).toArray below meth c (mg dA D al ext) 5 0 0 (mv_Q (mg dA D al ext) below s 0 0 (mv_Ui (XO 74 len th d n a1 (10 * f) σ) ("MachineLoomModel$Book$Wrong", al 107) (BF 74 σ))) τ 123 [(0, .ref (al 74)), (1, .int o9), (3, .int v57), (4, .int r9)] [] := by
      intro τ o9 r9 hT
      have hS := hS.ft hT
      refine mv_aload_n (pc := 123) B d_Book_unary_123 rfl 0 rfl ?_
      refine mv_bipush (pc := 124) (v := 6) B d_Book_unary_124 (by decide) ?_
      refine mv_iload_n (pc := 126) B d_Book_unary_126 rfl 2 rfl ?_
      refine mv_iload_n (pc := 127) B d_Book_unary_127 rfl 1 rfl ?_
      refine mv_iconst (pc := 128) (v := 0) B d_Book_unary_128 (by decide) ?_
      refine mv_iload (pc := 129) B d_Book_unary_129 3 rfl ?_
      refine mv_if_eq (pc := 131) (tgt := 143) B d_Book_unary_131 rfl (fun h131 => ?_) (fun h131 => ?_)
      · skip
        refine mv_iconst (pc := 143) (v := 0) B d_Book_unary_143 (by decide) ?_
        refine mv_callVi (pc := 144) (n := 5) (ci := 12) (C := R_Book) B (mK_ok sk sv) hNs rfl rfl (c_Book_node_x l hi _ _ _ _ _ _ hS.R (by have := hS.le; omega) (by have := hS.le; omega)) rfl (ma_goodc kc_Book_node) (B.2.2.2.1 _ k_2269) (B.2.2.2.1 _ k_2271) (B.2.2.2.1 _ ks_110) (B.2.2.2.1 _ k_13) ⟨by decide +kernel, by decide +kernel, by decide +kernel⟩ rfl d_Book_unary_144 rfl (Nat.le_of_ble_eq_true rfl) ⟨by first | decide | (dsimp only; omega), by first | decide | (dsimp only; omega)⟩ ⟨Nat.le_refl _, Nat.le_refl _⟩ ⟨Nat.le_refl _, Nat.le_refl _⟩ (mv_noH hno _) (fun v144 σ144 h144 => ?_)
        obtain ⟨e144, z144⟩ := h144
        have hL144 := hS.le
        have hN := hS.nodeE z144 (lo := n) (R := 10 * f) (by omega) hn0 (fun zz => XR.un (hS.2.at 0 rfl zz) m57 hS.P.nn (Or.inl (by decide)) r57 (by omega))
        have hv144 : v144.toInt + 1 = ((n57 + 1 : Nat) : Int) := by rw [e144]; omega
        exact mv_iret (pc := 147) B hr rfl d_Book_unary_147 (Nat.le_refl _) (Nat.le_refl _) (Or.inl ⟨_, rfl, hN.out hv144 (by omega) 0 rfl (Nat.le_refl _)⟩)
      · skip
        refine mv_aload_n (pc := 134) B d_Book_unary_134 rfl 0 rfl ?_
        refine mv_getR (pc := 135) (ci := 12) (C := R_Book) (T := F_Book) (N := 65) B 45 rfl rfl (by decide) i_Book (B.2.2.2.1 _ k_1894) rfl (hS.R.1 _ 45 _ rfl) d_Book_unary_135 ?_
        refine mv_iload_n (pc := 138) B d_Book_unary_138 rfl 2 rfl ?_
        refine mv_iald (pc := 139) B rfl hb57 d_Book_unary_139 ?_
        refine mv_goto (pc := 140) (tgt := 144) B d_Book_unary_140 rfl ?_
        refine mv_callVi (pc := 144) (n := 5) (ci := 12) (C := R_Book) B (mK_ok sk sv) hNs rfl rfl (c_Book_node_x l hi _ _ _ _ _ _ hS.R (by have := hS.le; omega) (by have := hS.le; omega)) rfl (ma_goodc kc_Book_node) (B.2.2.2.1 _ k_2269) (B.2.2.2.1 _ k_2271) (B.2.2.2.1 _ ks_110) (B.2.2.2.1 _ k_13) ⟨by decide +kernel, by decide +kernel, by decide +kernel⟩ rfl d_Book_unary_144 rfl (Nat.le_of_ble_eq_true rfl) ⟨by first | decide | (dsimp only; omega), by first | decide | (dsimp only; omega)⟩ ⟨Nat.le_refl _, Nat.le_refl _⟩ ⟨Nat.le_refl _, Nat.le_refl _⟩ (mv_noH hno _) (fun v144 σ144 h144 => ?_)
        obtain ⟨e144, z144⟩ := h144
        have hL144 := hS.le
        have hN := hS.nodeE z144 (lo := n) (R := 10 * f) (by omega) hn0 (fun zz => XR.un (hS.2.at 0 rfl zz) m57 hS.P.nn (Or.inl (by decide)) r57 (by omega))
        have hv144 : v144.toInt + 1 = ((n57 + 1 : Nat) : Int) := by rw [e144]; omega
        exact mv_iret (pc := 147) B hr rfl d_Book_unary_147 (Nat.le_refl _) (Nat.le_refl _) (Or.inl ⟨_, rfl, hN.out hv144 (by omega) 0 rfl (Nat.le_refl _)⟩)
    have j101 : ∀ (o9 : Int32) (p9 : Int32) (r9 : Int32) , mv_V p l e ({ frames := 14 * f + 13, cells := 0, slots := 0, locals := 500 * f + 550 }) s m ([.ref (al 74)] : List Value).toArray below meth c (mg dA D al ext) 5 0 0 (mv_Q (mg dA D al ext) below s 0 0 (mv_Ui (XO 74 len th d n a1 (10 * f) σ) ("MachineLoomModel$Book$Wrong", al 107) (BF 74 σ))) S71 101 [(0, .ref (al 74)), (1, .int o9), (2, .int p9), (3, .int v57)] [.int r9] := by
      intro o9 p9 r9
      refine mv_istore (pc := 101) B d_Book_unary_101 (by decide) rfl ?_
      refine mv_aload_n (pc := 103) B d_Book_unary_103 rfl 1 rfl ?_
      refine mv_getR (pc := 104) (ci := 12) (C := R_Book) (T := F_Book) (N := 65) B 45 rfl rfl (by decide) i_Book (B.2.2.2.1 _ k_1894) rfl (hS.R.1 _ 45 _ rfl) d_Book_unary_104 ?_
      refine mv_iload_n (pc := 107) B d_Book_unary_107 rfl 4 rfl ?_
      refine mv_iald (pc := 108) B rfl hb57 d_Book_unary_108 ?_
      refine mv_if_le (pc := 109) (tgt := 123) B d_Book_unary_109 rfl (fun h109 => ?_) (fun h109 => ?_)
      · skip
        refine mv_lpick [1, 2, 4, 0] rfl ?_
        exact j123 _ _ _ (by first | exact FT.rf | exact FT.rf.of h120)
      · skip
        refine mv_iload (pc := 112) B d_Book_unary_112 0 rfl ?_
        refine mv_if_ne (pc := 114) (tgt := 123) B d_Book_unary_114 rfl (fun h114 => ?_) (fun h114 => ?_)
        · skip
          refine mv_lpick [1, 2, 4, 0] rfl ?_
          exact j123 _ _ _ (by first | exact FT.rf | exact FT.rf.of h120)
        · skip
          refine mv_aload_n (pc := 117) B d_Book_unary_117 rfl 1 rfl ?_
          refine mv_iconst (pc := 118) (v := 4) B d_Book_unary_118 (by decide) ?_
          refine mv_iload_n (pc := 119) B d_Book_unary_119 rfl 3 rfl ?_
          refine mv_callVv (pc := 120) (n := 2) (ci := 12) (C := R_Book) B (mK_ok sk sv) hNs rfl rfl (c_Book_fault_x l hi _ _ _ (by decide)) rfl (ma_goodc kc_Book_fault) (B.2.2.2.1 _ k_2185) (B.2.2.2.1 _ k_2187) (B.2.2.2.1 _ ks_92) (B.2.2.2.1 _ k_13) ⟨by decide +kernel, by decide +kernel, by decide +kernel⟩ rfl d_Book_unary_120 rfl (Nat.le_of_ble_eq_true rfl) ⟨by first | decide | (dsimp only; omega), by first | decide | (dsimp only; omega)⟩ ⟨Nat.le_refl _, Nat.le_refl _⟩ ⟨Nat.le_refl _, Nat.le_refl _⟩ (mv_noH hno _) (fun σ120 h120 => ?_)
          refine mv_lpick [1, 2, 4, 0] rfl ?_
          exact j123 _ _ _ (by first | exact FT.rf | exact FT.rf.of h120)
    refine mv_aload_n (pc := 71) B d_Book_unary_71 rfl 3 rfl ?_
    refine mv_getR (pc := 72) (ci := 12) (C := R_Book) (T := F_Book) (N := 65) B 45 rfl rfl (by decide) i_Book (B.2.2.2.1 _ k_1894) rfl (hS.R.1 _ 45 _ rfl) d_Book_unary_72 ?_
    refine mv_iload_n (pc := 75) B d_Book_unary_75 rfl 0 rfl ?_
    refine mv_iald (pc := 76) B rfl hb57 d_Book_unary_76 ?_
    refine mv_if_le (pc := 77) (tgt := 100) B d_Book_unary_77 rfl (fun h77 => ?_) (fun h77 => ?_)
    · skip
      refine mv_iconst (pc := 100) (v := 0) B d_Book_unary_100 (by decide) ?_
      refine mv_lpick [3, 2, 1, 0] rfl ?_
      exact j101 _ _ _
    · skip
      refine mv_iload_n (pc := 80) B d_Book_unary_80 rfl 2 rfl ?_
      refine mv_bipush (pc := 81) (v := 33) B d_Book_unary_81 (by decide) ?_
      refine mv_icmp_ne (pc := 83) (tgt := 96) B d_Book_unary_83 rfl (fun h83 => ?_) (fun h83 => ?_)
      · skip
        refine mv_iconst (pc := 96) (v := 1) B d_Book_unary_96 (by decide) ?_
        refine mv_goto (pc := 97) (tgt := 101) B d_Book_unary_97 rfl ?_
        refine mv_lpick [3, 2, 1, 0] rfl ?_
        exact j101 _ _ _
      · skip
        refine mv_aload_n (pc := 86) B d_Book_unary_86 rfl 3 rfl ?_
        refine mv_getR (pc := 87) (ci := 12) (C := R_Book) (T := F_Book) (N := 65) B 45 rfl rfl (by decide) i_Book (B.2.2.2.1 _ k_1894) rfl (hS.R.1 _ 45 _ rfl) d_Book_unary_87 ?_
        refine mv_iload_n (pc := 90) B d_Book_unary_90 rfl 0 rfl ?_
        refine mv_iald (pc := 91) B rfl hb57 d_Book_unary_91 ?_
        refine mv_iconst (pc := 92) (v := 1) B d_Book_unary_92 (by decide) ?_
        refine mv_icmp_ne (pc := 93) (tgt := 100) B d_Book_unary_93 rfl (fun h93 => ?_) (fun h93 => ?_)
        · skip
          refine mv_iconst (pc := 100) (v := 0) B d_Book_unary_100 (by decide) ?_
          refine mv_lpick [3, 2, 1, 0] rfl ?_
          exact j101 _ _ _
        · skip
          refine mv_iconst (pc := 96) (v := 1) B d_Book_unary_96 (by decide) ?_
          refine mv_goto (pc := 97) (tgt := 101) B d_Book_unary_97 rfl ?_
          refine mv_lpick [3, 2, 1, 0] rfl ?_
          exact j101 _ _ _
  refine mv_aload_n (pc := 0) B d_Book_unary_0 rfl 0 rfl ?_
  refine mv_getI (pc := 1) (ci := 12) (C := R_Book) (T := F_Book) (N := 65) B 4 rfl rfl (by decide) i_Book (B.2.2.2.1 _ k_1847) rfl d_Book_unary_1 ?_
  refine mv_bipush (pc := 4) (v := 45) B d_Book_unary_4 (by decide) ?_
  refine mv_icmp_eq (pc := 6) (tgt := 32) B d_Book_unary_6 rfl (fun h6 => ?_) (fun h6 => ?_)
  · skip
    refine mv_lpick [0] rfl ?_
    exact j32 (by first | (rw [h6]; decide) | (rw [h15]; decide) | (rw [h24]; decide))
  · skip
    refine mv_aload_n (pc := 9) B d_Book_unary_9 rfl 0 rfl ?_
    refine mv_getI (pc := 10) (ci := 12) (C := R_Book) (T := F_Book) (N := 65) B 4 rfl rfl (by decide) i_Book (B.2.2.2.1 _ k_1847) rfl d_Book_unary_10 ?_
    refine mv_bipush (pc := 13) (v := 126) B d_Book_unary_13 (by decide) ?_
    refine mv_icmp_eq (pc := 15) (tgt := 32) B d_Book_unary_15 rfl (fun h15 => ?_) (fun h15 => ?_)
    · skip
      refine mv_lpick [0] rfl ?_
      exact j32 (by first | (rw [h6]; decide) | (rw [h15]; decide) | (rw [h24]; decide))
    · skip
      refine mv_aload_n (pc := 18) B d_Book_unary_18 rfl 0 rfl ?_
      refine mv_getI (pc := 19) (ci := 12) (C := R_Book) (T := F_Book) (N := 65) B 4 rfl rfl (by decide) i_Book (B.2.2.2.1 _ k_1847) rfl d_Book_unary_19 ?_
      refine mv_bipush (pc := 22) (v := 33) B d_Book_unary_22 (by decide) ?_
      refine mv_icmp_eq (pc := 24) (tgt := 32) B d_Book_unary_24 rfl (fun h24 => ?_) (fun h24 => ?_)
      · skip
        refine mv_lpick [0] rfl ?_
        exact j32 (by first | (rw [h6]; decide) | (rw [h15]; decide) | (rw [h24]; decide))
      · skip
        refine mv_aload_n (pc := 27) B d_Book_unary_27 rfl 0 rfl ?_
        refine mv_callVUi (pc := 28) (n := 0) (ci := 12) (C := R_Book) B (mK_ok sk sv) hNs rfl rfl (hPo _ len th _ _ _ _ hf hS.P) rfl (ma_goodc kc_Book_post) (B.2.2.2.1 _ k_2257) (B.2.2.2.1 _ k_2259) (B.2.2.2.1 _ ks_107) (B.2.2.2.1 _ k_13) ⟨by decide +kernel, by decide +kernel, by decide +kernel⟩ rfl d_Book_unary_28 rfl (Nat.le_of_ble_eq_true rfl) ⟨by first | decide | (dsimp only; omega), by first | decide | (dsimp only; omega)⟩ ⟨Nat.le_refl _, Nat.le_refl _⟩ ⟨Nat.le_refl _, Nat.le_refl _⟩ (mv_noH hno _) (fun τ9 g9 => Or.inr ⟨rfl, hS.1.2.1.bf.tr g9⟩) (fun v28 σ28 h28 => ?_)
        obtain ⟨n28, t28, u28, s28, m28, r28, x28⟩ := h28
        have i28 := s28.2.2.2.1
        have hS := hS.sub s28 x28
        exact mv_iret (pc := 31) B hr rfl d_Book_unary_31 (Nat.le_refl _) (Nat.le_refl _) (Or.inl ⟨_, rfl, hS.out r28 m28 0 rfl (Nat.le_refl _)⟩)
set_option maxHeartbeats 4000000 in
set_option maxRecDepth 100000 in
theorem c_Book_unary_y (l : Launch) {dA : FieldType → ClassId} {D : va_G} {al : Nat → Nat} {ext : mv_Sh} {sk sv : Nat → Nat} (hi : mv_inj (mg dA D al ext)) (σ : mv_H) (f len th d n a1 a2 : Nat) (hf : d + f = 61) (hP : PS 108 len th d n a1 a2 σ) (ihU : ∀ g, g + 1 = f → XU l dA D al ext sk sv 108 g) (hPo : XPo l dA D al ext sk sv 108 f) : mv_C l y_Book_unary (Cond.code y_Book_unary b_Book_unary 5 (Option.some Jvm.ClassFile.FieldType.int) :: ma) ({ frames := 14 * f + 13, cells := 0, slots := 0, locals := 500 * f + 550 }) (mg dA D al ext) (mK sk sv) [.ref (al 108)] σ (mv_Ui (XO 108 len th d n a1 (10 * f) σ) ("MachineLoomModel$Book$Wrong", al 141) (BF 108 σ)) := by
  refine mv_C.ofV (cc := b_Book_unary) (nL := 5) (ret := (Option.some Jvm.ClassFile.FieldType.int)) (by decide +kernel) rfl hi (Nat.le_of_ble_eq_true rfl) ?_
  intro p e s m below meth c B hNs hr hnm hno
  have hS := XT.rf hP
  have hn0 := hP.le.1
  have j32 : ∀  (hk : ¬ (mv_i σ 108 4 = 0 ∨ mv_i σ 108 4 = -1)), mv_V p l e ({ frames := 14 * f + 13, cells := 0, slots := 0, locals := 500 * f + 550 }) s m ([.ref (al 108)] : List Value).toArray below meth c (mg dA D al ext) 5 0 0 (mv_Q (mg dA D al ext) below s 0 0 (mv_Ui (XO 108 len th d n a1 (10 * f) σ) ("MachineLoomModel$Book$Wrong", al 141) (BF 108 σ))) σ 32 [(0, .ref (al 108))] [] := by
    intro hk
    refine mv_aload_n (pc := 32) B d_Book_unary_32 rfl 0 rfl ?_
    refine mv_getI (pc := 33) (ci := 12) (C := R_Book) (T := F_Book) (N := 65) B 4 rfl rfl (by decide) i_Book (B.2.2.2.1 _ k_1847) rfl d_Book_unary_33 ?_
    refine mv_istore_n (pc := 36) B d_Book_unary_36 rfl (by decide) rfl ?_
    refine mv_aload_n (pc := 37) B d_Book_unary_37 rfl 1 rfl ?_
    refine mv_getI (pc := 38) (ci := 12) (C := R_Book) (T := F_Book) (N := 65) B 5 rfl rfl (by decide) i_Book (B.2.2.2.1 _ k_1848) rfl d_Book_unary_38 ?_
    refine mv_istore_n (pc := 41) B d_Book_unary_41 rfl (by decide) rfl ?_
    refine mv_aload_n (pc := 42) B d_Book_unary_42 rfl 2 rfl ?_
    refine mv_callVUv (pc := 43) (n := 0) (ci := 12) (C := R_Book) B (mK_ok sk sv) hNs rfl rfl (c_Book_pass_y l hi _ len _ _ hS.P.1) rfl (ma_goodc kc_Book_pass) (B.2.2.2.1 _ k_2173) (B.2.2.2.1 _ k_2175) (B.2.2.2.1 _ ks_90) (B.2.2.2.1 _ k_13) ⟨by decide +kernel, by decide +kernel, by decide +kernel⟩ rfl d_Book_unary_43 rfl (Nat.le_of_ble_eq_true rfl) ⟨by first | decide | (dsimp only; omega), by first | decide | (dsimp only; omega)⟩ ⟨Nat.le_refl _, Nat.le_refl _⟩ ⟨Nat.le_refl _, Nat.le_refl _⟩ (mv_noH hno _) (fun τ9 g9 => Or.inr ⟨rfl, hS.1.2.1.bf.tr g9.bf⟩) (fun σ43 h43 => ?_)
    have w43 := hS.P.w (by exact hk)
    obtain ⟨d43, t43, u43, q43, g43⟩ := h43
    rw [hS.P.2.1] at d43
    have hL0 := hS.le
    have hS := hS.pass q43 g43
    refine mv_aload_n (pc := 46) B d_Book_unary_46 rfl 2 rfl ?_
    refine mv_dup (pc := 47) B d_Book_unary_47 rfl ?_
    refine mv_getI (pc := 48) (ci := 12) (C := R_Book) (T := F_Book) (N := 65) B 8 rfl rfl (by decide) i_Book (B.2.2.2.1 _ k_1851) rfl d_Book_unary_48 ?_
    refine mv_iconst (pc := 51) (v := 1) B d_Book_unary_51 (by decide) ?_
    refine mv_iadd (pc := 52) B d_Book_unary_52 ?_
    refine mv_putI (pc := 53) (ci := 12) (C := R_Book) (T := F_Book) (N := 65) B 8 rfl rfl (by decide) i_Book t_Book_ok n_Book (B.2.2.2.1 _ k_1851) rfl rfl rfl rfl d_Book_unary_53 ?_
    refine mv_gen (fun S56 eS56 => ?_)
    have hS := hS.dep (hS.P.up (by omega))
    rw [← eS56] at hS
    clear eS56
    refine mv_aload_n (pc := 56) B d_Book_unary_56 rfl 2 rfl ?_
    refine mv_callVUi (pc := 57) (n := 0) (ci := 12) (C := R_Book) B (mK_ok sk sv) hNs rfl rfl (ihU (f - 1) (by omega) _ len th _ _ _ _ (by omega) hS.P) rfl (ma_goodc kc_Book_unary) (B.2.2.2.1 _ k_2253) (B.2.2.2.1 _ k_2255) (B.2.2.2.1 _ ks_106) (B.2.2.2.1 _ k_13) ⟨by decide +kernel, by decide +kernel, by decide +kernel⟩ rfl d_Book_unary_57 rfl (Nat.le_of_ble_eq_true rfl) ⟨by first | decide | (dsimp only; omega), by first | decide | (dsimp only; omega)⟩ ⟨Nat.le_refl _, Nat.le_refl _⟩ ⟨Nat.le_refl _, Nat.le_refl _⟩ (mv_noH hno _) (fun τ9 g9 => Or.inr ⟨rfl, hS.1.2.1.bf.tr g9⟩) (fun v57 σ57 h57 => ?_)
    obtain ⟨n57, t57, u57, s57, m57, r57, x57⟩ := h57
    have i57 := s57.2.2.2.1
    have hS := hS.sub s57 x57
    have hL57 := hS.le
    have hb57 : vp_in v57 33000 := i32_in (by omega) (by omega)
    refine mv_istore_n (pc := 60) B d_Book_unary_60 rfl (by decide) rfl ?_
    refine mv_aload_n (pc := 61) B d_Book_unary_61 rfl 3 rfl ?_
    refine mv_dup (pc := 62) B d_Book_unary_62 rfl ?_
    refine mv_getI (pc := 63) (ci := 12) (C := R_Book) (T := F_Book) (N := 65) B 8 rfl rfl (by decide) i_Book (B.2.2.2.1 _ k_1851) rfl d_Book_unary_63 ?_
    refine mv_iconst (pc := 66) (v := 1) B d_Book_unary_66 (by decide) ?_
    refine mv_isub (pc := 67) B d_Book_unary_67 ?_
    refine mv_putI (pc := 68) (ci := 12) (C := R_Book) (T := F_Book) (N := 65) B 8 rfl rfl (by decide) i_Book t_Book_ok n_Book (B.2.2.2.1 _ k_1851) rfl rfl rfl rfl d_Book_unary_68 ?_
    refine mv_gen (fun S71 eS71 => ?_)
    have hS := hS.dep hS.P.dn
    rw [← eS71] at hS
    clear eS71
    have j123 : ∀ (τ : mv_H) (o9 : Int32) (r9 : Int32) (hT : FT 108 S71 τ), mv_V p l e ({ frames := 14 * f + 13, cells := 0, slots := 0, locals := 500 * f + 550 }) s m ([.ref (al 108)] : List Value).toArray below meth c (mg dA D al ext) 5 0 0 (mv_Q (mg dA D al ext) below s 0 0 (mv_Ui (XO 108 len th d n a1 (10 * f) σ) ("MachineLoomModel$Book$Wrong", al 141) (BF 108 σ))) τ 123 [(0, .ref (al 108)), (1, .int o9), (3, .int v57), (4, .int r9)] [] := by
      intro τ o9 r9 hT
      have hS := hS.ft hT
      refine mv_aload_n (pc := 123) B d_Book_unary_123 rfl 0 rfl ?_
      refine mv_bipush (pc := 124) (v := 6) B d_Book_unary_124 (by decide) ?_
      refine mv_iload_n (pc := 126) B d_Book_unary_126 rfl 2 rfl ?_
      refine mv_iload_n (pc := 127) B d_Book_unary_127 rfl 1 rfl ?_
      refine mv_iconst (pc := 128) (v := 0) B d_Book_unary_128 (by decide) ?_
      refine mv_iload (pc := 129) B d_Book_unary_129 3 rfl ?_
      refine mv_if_eq (pc := 131) (tgt := 143) B d_Book_unary_131 rfl (fun h131 => ?_) (fun h131 => ?_)
      · skip
        refine mv_iconst (pc := 143) (v := 0) B d_Book_unary_143 (by decide) ?_
        refine mv_callVi (pc := 144) (n := 5) (ci := 12) (C := R_Book) B (mK_ok sk sv) hNs rfl rfl (c_Book_node_y l hi _ _ _ _ _ _ hS.R (by have := hS.le; omega) (by have := hS.le; omega)) rfl (ma_goodc kc_Book_node) (B.2.2.2.1 _ k_2269) (B.2.2.2.1 _ k_2271) (B.2.2.2.1 _ ks_110) (B.2.2.2.1 _ k_13) ⟨by decide +kernel, by decide +kernel, by decide +kernel⟩ rfl d_Book_unary_144 rfl (Nat.le_of_ble_eq_true rfl) ⟨by first | decide | (dsimp only; omega), by first | decide | (dsimp only; omega)⟩ ⟨Nat.le_refl _, Nat.le_refl _⟩ ⟨Nat.le_refl _, Nat.le_refl _⟩ (mv_noH hno _) (fun v144 σ144 h144 => ?_)
        obtain ⟨e144, z144⟩ := h144
        have hL144 := hS.le
        have hN := hS.nodeE z144 (lo := n) (R := 10 * f) (by omega) hn0 (fun zz => XR.un (hS.2.at 0 rfl zz) m57 hS.P.nn (Or.inl (by decide)) r57 (by omega))
        have hv144 : v144.toInt + 1 = ((n57 + 1 : Nat) : Int) := by rw [e144]; omega
        exact mv_iret (pc := 147) B hr rfl d_Book_unary_147 (Nat.le_refl _) (Nat.le_refl _) (Or.inl ⟨_, rfl, hN.out hv144 (by omega) 0 rfl (Nat.le_refl _)⟩)
      · skip
        refine mv_aload_n (pc := 134) B d_Book_unary_134 rfl 0 rfl ?_
        refine mv_getR (pc := 135) (ci := 12) (C := R_Book) (T := F_Book) (N := 65) B 45 rfl rfl (by decide) i_Book (B.2.2.2.1 _ k_1894) rfl (hS.R.1 _ 45 _ rfl) d_Book_unary_135 ?_
        refine mv_iload_n (pc := 138) B d_Book_unary_138 rfl 2 rfl ?_
        refine mv_iald (pc := 139) B rfl hb57 d_Book_unary_139 ?_
        refine mv_goto (pc := 140) (tgt := 144) B d_Book_unary_140 rfl ?_
        refine mv_callVi (pc := 144) (n := 5) (ci := 12) (C := R_Book) B (mK_ok sk sv) hNs rfl rfl (c_Book_node_y l hi _ _ _ _ _ _ hS.R (by have := hS.le; omega) (by have := hS.le; omega)) rfl (ma_goodc kc_Book_node) (B.2.2.2.1 _ k_2269) (B.2.2.2.1 _ k_2271) (B.2.2.2.1 _ ks_110) (B.2.2.2.1 _ k_13) ⟨by decide +kernel, by decide +kernel, by decide +kernel⟩ rfl d_Book_unary_144 rfl (Nat.le_of_ble_eq_true rfl) ⟨by first | decide | (dsimp only; omega), by first | decide | (dsimp only; omega)⟩ ⟨Nat.le_refl _, Nat.le_refl _⟩ ⟨Nat.le_refl _, Nat.le_refl _⟩ (mv_noH hno _) (fun v144 σ144 h144 => ?_)
        obtain ⟨e144, z144⟩ := h144
        have hL144 := hS.le
        have hN := hS.nodeE z144 (lo := n) (R := 10 * f) (by omega) hn0 (fun zz => XR.un (hS.2.at 0 rfl zz) m57 hS.P.nn (Or.inl (by decide)) r57 (by omega))
        have hv144 : v144.toInt + 1 = ((n57 + 1 : Nat) : Int) := by rw [e144]; omega
        exact mv_iret (pc := 147) B hr rfl d_Book_unary_147 (Nat.le_refl _) (Nat.le_refl _) (Or.inl ⟨_, rfl, hN.out hv144 (by omega) 0 rfl (Nat.le_refl _)⟩)
    have j101 : ∀ (o9 : Int32) (p9 : Int32) (r9 : Int32) , mv_V p l e ({ frames := 14 * f + 13, cells := 0, slots := 0, locals := 500 * f + 550 }) s m ([.ref (al 108)] : List Value).toArray below meth c (mg dA D al ext) 5 0 0 (mv_Q (mg dA D al ext) below s 0 0 (mv_Ui (XO 108 len th d n a1 (10 * f) σ) ("MachineLoomModel$Book$Wrong", al 141) (BF 108 σ))) S71 101 [(0, .ref (al 108)), (1, .int o9), (2, .int p9), (3, .int v57)] [.int r9] := by
      intro o9 p9 r9
      refine mv_istore (pc := 101) B d_Book_unary_101 (by decide) rfl ?_
      refine mv_aload_n (pc := 103) B d_Book_unary_103 rfl 1 rfl ?_
      refine mv_getR (pc := 104) (ci := 12) (C := R_Book) (T := F_Book) (N := 65) B 45 rfl rfl (by decide) i_Book (B.2.2.2.1 _ k_1894) rfl (hS.R.1 _ 45 _ rfl) d_Book_unary_104 ?_
      refine mv_iload_n (pc := 107) B d_Book_unary_107 rfl 4 rfl ?_
      refine mv_iald (pc := 108) B rfl hb57 d_Book_unary_108 ?_
      refine mv_if_le (pc := 109) (tgt := 123) B d_Book_unary_109 rfl (fun h109 => ?_) (fun h109 => ?_)
      · skip
        refine mv_lpick [1, 2, 4, 0] rfl ?_
        exact j123 _ _ _ (by first | exact FT.rf | exact FT.rf.of h120)
      · skip
        refine mv_iload (pc := 112) B d_Book_unary_112 0 rfl ?_
        refine mv_if_ne (pc := 114) (tgt := 123) B d_Book_unary_114 rfl (fun h114 => ?_) (fun h114 => ?_)
        · skip
          refine mv_lpick [1, 2, 4, 0] rfl ?_
          exact j123 _ _ _ (by first | exact FT.rf | exact FT.rf.of h120)
        · skip
          refine mv_aload_n (pc := 117) B d_Book_unary_117 rfl 1 rfl ?_
          refine mv_iconst (pc := 118) (v := 4) B d_Book_unary_118 (by decide) ?_
          refine mv_iload_n (pc := 119) B d_Book_unary_119 rfl 3 rfl ?_
          refine mv_callVv (pc := 120) (n := 2) (ci := 12) (C := R_Book) B (mK_ok sk sv) hNs rfl rfl (c_Book_fault_y l hi _ _ _ (by decide)) rfl (ma_goodc kc_Book_fault) (B.2.2.2.1 _ k_2185) (B.2.2.2.1 _ k_2187) (B.2.2.2.1 _ ks_92) (B.2.2.2.1 _ k_13) ⟨by decide +kernel, by decide +kernel, by decide +kernel⟩ rfl d_Book_unary_120 rfl (Nat.le_of_ble_eq_true rfl) ⟨by first | decide | (dsimp only; omega), by first | decide | (dsimp only; omega)⟩ ⟨Nat.le_refl _, Nat.le_refl _⟩ ⟨Nat.le_refl _, Nat.le_refl _⟩ (mv_noH hno _) (fun σ120 h120 => ?_)
          refine mv_lpick [1, 2, 4, 0] rfl ?_
          exact j123 _ _ _ (by first | exact FT.rf | exact FT.rf.of h120)
    refine mv_aload_n (pc := 71) B d_Book_unary_71 rfl 3 rfl ?_
    refine mv_getR (pc := 72) (ci := 12) (C := R_Book) (T := F_Book) (N := 65) B 45 rfl rfl (by decide) i_Book (B.2.2.2.1 _ k_1894) rfl (hS.R.1 _ 45 _ rfl) d_Book_unary_72 ?_
    refine mv_iload_n (pc := 75) B d_Book_unary_75 rfl 0 rfl ?_
    refine mv_iald (pc := 76) B rfl hb57 d_Book_unary_76 ?_
    refine mv_if_le (pc := 77) (tgt := 100) B d_Book_unary_77 rfl (fun h77 => ?_) (fun h77 => ?_)
    · skip
      refine mv_iconst (pc := 100) (v := 0) B d_Book_unary_100 (by decide) ?_
      refine mv_lpick [3, 2, 1, 0] rfl ?_
      exact j101 _ _ _
    · skip
      refine mv_iload_n (pc := 80) B d_Book_unary_80 rfl 2 rfl ?_
      refine mv_bipush (pc := 81) (v := 33) B d_Book_unary_81 (by decide) ?_
      refine mv_icmp_ne (pc := 83) (tgt := 96) B d_Book_unary_83 rfl (fun h83 => ?_) (fun h83 => ?_)
      · skip
        refine mv_iconst (pc := 96) (v := 1) B d_Book_unary_96 (by decide) ?_
        refine mv_goto (pc := 97) (tgt := 101) B d_Book_unary_97 rfl ?_
        refine mv_lpick [3, 2, 1, 0] rfl ?_
        exact j101 _ _ _
      · skip
        refine mv_aload_n (pc := 86) B d_Book_unary_86 rfl 3 rfl ?_
        refine mv_getR (pc := 87) (ci := 12) (C := R_Book) (T := F_Book) (N := 65) B 45 rfl rfl (by decide) i_Book (B.2.2.2.1 _ k_1894) rfl (hS.R.1 _ 45 _ rfl) d_Book_unary_87 ?_
        refine mv_iload_n (pc := 90) B d_Book_unary_90 rfl 0 rfl ?_
        refine mv_iald (pc := 91) B rfl hb57 d_Book_unary_91 ?_
        refine mv_iconst (pc := 92) (v := 1) B d_Book_unary_92 (by decide) ?_
        refine mv_icmp_ne (pc := 93) (tgt := 100) B d_Book_unary_93 rfl (fun h93 => ?_) (fun h93 => ?_)
        · skip
          refine mv_iconst (pc := 100) (v := 0) B d_Book_unary_100 (by decide) ?_
          refine mv_lpick [3, 2, 1, 0] rfl ?_
          exact j101 _ _ _
        · skip
          refine mv_iconst (pc := 96) (v := 1) B d_Book_unary_96 (by decide) ?_
          refine mv_goto (pc := 97) (tgt := 101) B d_Book_unary_97 rfl ?_
          refine mv_lpick [3, 2, 1, 0] rfl ?_
          exact j101 _ _ _
  refine mv_aload_n (pc := 0) B d_Book_unary_0 rfl 0 rfl ?_
  refine mv_getI (pc := 1) (ci := 12) (C := R_Book) (T := F_Book) (N := 65) B 4 rfl rfl (by decide) i_Book (B.2.2.2.1 _ k_1847) rfl d_Book_unary_1 ?_
  refine mv_bipush (pc := 4) (v := 45) B d_Book_unary_4 (by decide) ?_
  refine mv_icmp_eq (pc := 6) (tgt := 32) B d_Book_unary_6 rfl (fun h6 => ?_) (fun h6 => ?_)
  · skip
    refine mv_lpick [0] rfl ?_
    exact j32 (by first | (rw [h6]; decide) | (rw [h15]; decide) | (rw [h24]; decide))
  · skip
    refine mv_aload_n (pc := 9) B d_Book_unary_9 rfl 0 rfl ?_
    refine mv_getI (pc := 10) (ci := 12) (C := R_Book) (T := F_Book) (N := 65) B 4 rfl rfl (by decide) i_Book (B.2.2.2.1 _ k_1847) rfl d_Book_unary_10 ?_
    refine mv_bipush (pc := 13) (v := 126) B d_Book_unary_13 (by decide) ?_
    refine mv_icmp_eq (pc := 15) (tgt := 32) B d_Book_unary_15 rfl (fun h15 => ?_) (fun h15 => ?_)
    · skip
      refine mv_lpick [0] rfl ?_
      exact j32 (by first | (rw [h6]; decide) | (rw [h15]; decide) | (rw [h24]; decide))
    · skip
      refine mv_aload_n (pc := 18) B d_Book_unary_18 rfl 0 rfl ?_
      refine mv_getI (pc := 19) (ci := 12) (C := R_Book) (T := F_Book) (N := 65) B 4 rfl rfl (by decide) i_Book (B.2.2.2.1 _ k_1847) rfl d_Book_unary_19 ?_
      refine mv_bipush (pc := 22) (v := 33) B d_Book_unary_22 (by decide) ?_
      refine mv_icmp_eq (pc := 24) (tgt := 32) B d_Book_unary_24 rfl (fun h24 => ?_) (fun h24 => ?_)
      · skip
        refine mv_lpick [0] rfl ?_
        exact j32 (by first | (rw [h6]; decide) | (rw [h15]; decide) | (rw [h24]; decide))
      · skip
        refine mv_aload_n (pc := 27) B d_Book_unary_27 rfl 0 rfl ?_
        refine mv_callVUi (pc := 28) (n := 0) (ci := 12) (C := R_Book) B (mK_ok sk sv) hNs rfl rfl (hPo _ len th _ _ _ _ hf hS.P) rfl (ma_goodc kc_Book_post) (B.2.2.2.1 _ k_2257) (B.2.2.2.1 _ k_2259) (B.2.2.2.1 _ ks_107) (B.2.2.2.1 _ k_13) ⟨by decide +kernel, by decide +kernel, by decide +kernel⟩ rfl d_Book_unary_28 rfl (Nat.le_of_ble_eq_true rfl) ⟨by first | decide | (dsimp only; omega), by first | decide | (dsimp only; omega)⟩ ⟨Nat.le_refl _, Nat.le_refl _⟩ ⟨Nat.le_refl _, Nat.le_refl _⟩ (mv_noH hno _) (fun τ9 g9 => Or.inr ⟨rfl, hS.1.2.1.bf.tr g9⟩) (fun v28 σ28 h28 => ?_)
        obtain ⟨n28, t28, u28, s28, m28, r28, x28⟩ := h28
        have i28 := s28.2.2.2.1
        have hS := hS.sub s28 x28
        exact mv_iret (pc := 31) B hr rfl d_Book_unary_31 (Nat.le_refl _) (Nat.le_refl _) (Or.inl ⟨_, rfl, hS.out r28 m28 0 rfl (Nat.le_refl _)⟩)
theorem k_2318 : (Jvm.Cond.methodLink "MachineLoomModel$Book" (278 : Nat) ({ cls := "MachineLoomModel$Book", name := "levelOf", desc := "(I)I" } : Jvm.MethodName)) ∈ ma := ma_of (tb_10 _ (List.mem_of_getElem? (i := 158) rfl)) rfl
theorem k_2319 : (Jvm.Cond.static ({ cls := "MachineLoomModel$Book", name := "levelOf", desc := "(I)I" } : Jvm.MethodName)) ∈ ma := ma_of (tb_10 _ (List.mem_of_getElem? (i := 159) rfl)) rfl
theorem k_2249 : (Jvm.Cond.methodLink "MachineLoomModel$Book" (253 : Nat) ({ cls := "MachineLoomModel$Book", name := "binary", desc := "(I)I" } : Jvm.MethodName)) ∈ ma := ma_of (tb_10 _ (List.mem_of_getElem? (i := 89) rfl)) rfl
theorem k_2251 : (Jvm.Cond.instanceMethod ({ cls := "MachineLoomModel$Book", name := "binary", desc := "(I)I" } : Jvm.MethodName)) ∈ ma := ma_of (tb_10 _ (List.mem_of_getElem? (i := 91) rfl)) rfl
theorem ks_105 : Cond.selects "MachineLoomModel$Book" ⟨"MachineLoomModel$Book", "binary", "(I)I"⟩ ⟨"MachineLoomModel$Book", "binary", "(I)I"⟩ ∈ ma := ma_sel 105 rfl rfl
theorem d_Book_binary_0 : decode b_Book_binary 0 = .ok (.iload_n 1, 1) := by decide +kernel
theorem d_Book_binary_1 : decode b_Book_binary 1 = .ok (.bipush 8, 2) := by decide +kernel
theorem d_Book_binary_3 : decode b_Book_binary 3 = .ok (.if_icmp .ne (8), 3) := by decide +kernel
theorem d_Book_binary_6 : decode b_Book_binary 6 = .ok (.aload_n 0, 1) := by decide +kernel
theorem d_Book_binary_7 : decode b_Book_binary 7 = .ok (.invokevirtual 275, 3) := by decide +kernel
theorem d_Book_binary_10 : decode b_Book_binary 10 = .ok (.ireturn, 1) := by decide +kernel
theorem d_Book_binary_11 : decode b_Book_binary 11 = .ok (.aload_n 0, 1) := by decide +kernel
theorem d_Book_binary_12 : decode b_Book_binary 12 = .ok (.iload_n 1, 1) := by decide +kernel
theorem d_Book_binary_13 : decode b_Book_binary 13 = .ok (.iconst 1, 1) := by decide +kernel
theorem d_Book_binary_14 : decode b_Book_binary 14 = .ok (.iadd, 1) := by decide +kernel
theorem d_Book_binary_15 : decode b_Book_binary 15 = .ok (.invokevirtual 253, 3) := by decide +kernel
theorem d_Book_binary_18 : decode b_Book_binary 18 = .ok (.istore_n 2, 1) := by decide +kernel
theorem d_Book_binary_19 : decode b_Book_binary 19 = .ok (.aload_n 0, 1) := by decide +kernel
theorem d_Book_binary_20 : decode b_Book_binary 20 = .ok (.getfield 151, 3) := by decide +kernel
theorem d_Book_binary_23 : decode b_Book_binary 23 = .ok (.invokestatic 278, 3) := by decide +kernel
theorem d_Book_binary_26 : decode b_Book_binary 26 = .ok (.iload_n 1, 1) := by decide +kernel
theorem d_Book_binary_27 : decode b_Book_binary 27 = .ok (.if_icmp .ne (37), 3) := by decide +kernel
theorem d_Book_binary_30 : decode b_Book_binary 30 = .ok (.aload_n 0, 1) := by decide +kernel
theorem d_Book_binary_31 : decode b_Book_binary 31 = .ok (.getfield 151, 3) := by decide +kernel
theorem d_Book_binary_34 : decode b_Book_binary 34 = .ok (.istore_n 3, 1) := by decide +kernel
theorem d_Book_binary_35 : decode b_Book_binary 35 = .ok (.aload_n 0, 1) := by decide +kernel
theorem d_Book_binary_36 : decode b_Book_binary 36 = .ok (.getfield 174, 3) := by decide +kernel
theorem d_Book_binary_39 : decode b_Book_binary 39 = .ok (.istore 4, 2) := by decide +kernel
theorem d_Book_binary_41 : decode b_Book_binary 41 = .ok (.aload_n 0, 1) := by decide +kernel
theorem d_Book_binary_42 : decode b_Book_binary 42 = .ok (.invokevirtual 203, 3) := by decide +kernel
theorem d_Book_binary_45 : decode b_Book_binary 45 = .ok (.aload_n 0, 1) := by decide +kernel
theorem d_Book_binary_46 : decode b_Book_binary 46 = .ok (.iload_n 3, 1) := by decide +kernel
theorem d_Book_binary_47 : decode b_Book_binary 47 = .ok (.iload 4, 2) := by decide +kernel
theorem d_Book_binary_49 : decode b_Book_binary 49 = .ok (.iload_n 2, 1) := by decide +kernel
theorem d_Book_binary_50 : decode b_Book_binary 50 = .ok (.aload_n 0, 1) := by decide +kernel
theorem d_Book_binary_51 : decode b_Book_binary 51 = .ok (.iload_n 1, 1) := by decide +kernel
theorem d_Book_binary_52 : decode b_Book_binary 52 = .ok (.iconst 1, 1) := by decide +kernel
theorem d_Book_binary_53 : decode b_Book_binary 53 = .ok (.iadd, 1) := by decide +kernel
theorem d_Book_binary_54 : decode b_Book_binary 54 = .ok (.invokevirtual 253, 3) := by decide +kernel
theorem d_Book_binary_57 : decode b_Book_binary 57 = .ok (.invokevirtual 281, 3) := by decide +kernel
theorem d_Book_binary_60 : decode b_Book_binary 60 = .ok (.istore_n 2, 1) := by decide +kernel
theorem d_Book_binary_61 : decode b_Book_binary 61 = .ok (.goto (-42), 3) := by decide +kernel
theorem d_Book_binary_64 : decode b_Book_binary 64 = .ok (.iload_n 2, 1) := by decide +kernel
theorem d_Book_binary_65 : decode b_Book_binary 65 = .ok (.ireturn, 1) := by decide +kernel
set_option maxHeartbeats 4000000 in
set_option maxRecDepth 100000 in
theorem c_Book_binary_x (l : Launch) {dA : FieldType → ClassId} {D : va_G} {al : Nat → Nat} {ext : mv_Sh} {sk sv : Nat → Nat} (hi : mv_inj (mg dA D al ext)) (σ : mv_H) (f len th d n a1 a2 : Nat) (hf : d + f = 61) (hP : PS 74 len th d n a1 a2 σ) (k : Nat) (v9 : Int32) (hv9 : v9.toInt + k = 8) (hk8 : k ≤ 8) (ihB : ∀ j, j + 1 = k → XB l dA D al ext sk sv 74 f j) (hU : XU l dA D al ext sk sv 74 f) : mv_C l y_Book_binary (Cond.code y_Book_binary b_Book_binary 5 (Option.some Jvm.ClassFile.FieldType.int) :: ma) ({ frames := 14 * f + 14 + k, cells := 0, slots := 0, locals := 500 * f + 600 + 25 * k }) (mg dA D al ext) (mK sk sv) [.ref (al 74), .int v9] σ (mv_Ui (XO 74 len th d n a1 (10 * f + k) σ) ("MachineLoomModel$Book$Wrong", al 107) (BF 74 σ)) := by
  refine mv_C.ofV (cc := b_Book_binary) (nL := 5) (ret := (Option.some Jvm.ClassFile.FieldType.int)) (by decide +kernel) rfl hi (Nat.le_of_ble_eq_true rfl) ?_
  intro p e s m below meth c B hNs hr hnm hno
  have hS := XT.rf hP
  have hn0 := hP.le.1
  have hv0 := i32_rng v9
  have lp : ∀ (nn : Nat) (S : mv_H) (n8 : Nat) (t8 : Nat) (u8 : Nat) (x8 : Int32) (hS : XT 74 len th σ n a1 S d n8 t8 u8 [(n, n8, 10 * f + k)]) (hn8 : n < n8) (hx8 : x8.toInt + 1 = n8) (hk1 : 1 ≤ k), len + 1 - t8 < nn → mv_V p l e ({ frames := 14 * f + 14 + k, cells := 0, slots := 0, locals := 500 * f + 600 + 25 * k }) s m ([.ref (al 74), .int v9] : List Value).toArray below meth c (mg dA D al ext) 5 0 0 (mv_Q (mg dA D al ext) below s 0 0 (mv_Ui (XO 74 len th d n a1 (10 * f + k) σ) ("MachineLoomModel$Book$Wrong", al 107) (BF 74 σ))) S 19 [(2, .int x8), (0, .ref (al 74)), (1, .int v9)] [] := by
    intro nn
    induction nn with
    | zero => intro S n8 t8 u8 x8 hS hn8 hx8 hk1 hm; exact absurd hm (Nat.not_lt_zero _)
    | succ nn ih =>
      intro S n8 t8 u8 x8 hS hn8 hx8 hk1 hm
      have hL19 := hS.le
      refine mv_aload_n (pc := 19) B d_Book_binary_19 rfl 1 rfl ?_
      refine mv_getI (pc := 20) (ci := 12) (C := R_Book) (T := F_Book) (N := 65) B 4 rfl rfl (by decide) i_Book (B.2.2.2.1 _ k_1847) rfl d_Book_binary_20 ?_
      refine mv_callSi (pc := 23) (n := 1) B (mK_ok sk sv) hNs (c_Book_levelOf l hi _ _) rfl (ma_goodc kc_Book_levelOf) (B.2.2.2.1 _ k_2318) (B.2.2.2.1 _ k_2319) (B.2.2.2.1 _ k_13) ⟨by decide +kernel, by decide +kernel, by decide +kernel⟩ rfl d_Book_binary_23 rfl (Nat.le_of_ble_eq_true rfl) ⟨by first | decide | (dsimp only; omega), by first | decide | (dsimp only; omega)⟩ ⟨Nat.le_refl _, Nat.le_refl _⟩ ⟨Nat.le_refl _, Nat.le_refl _⟩ (mv_noH hno _) (fun v23 σ23 h23 => ?_)
      obtain ⟨e23, z23⟩ := h23
      have e23 := e23.symm
      subst e23
      refine mv_iload_n (pc := 26) B d_Book_binary_26 rfl 2 rfl ?_
      refine mv_icmp_ne (pc := 27) (tgt := 64) B d_Book_binary_27 rfl (fun h27 => ?_) (fun h27 => ?_)
      · skip
        refine mv_iload_n (pc := 64) B d_Book_binary_64 rfl 0 rfl ?_
        exact mv_iret (pc := 65) B hr rfl d_Book_binary_65 (Nat.le_refl _) (Nat.le_refl _) (Or.inl ⟨_, rfl, hS.out hx8 hn8 0 rfl (Nat.le_refl _)⟩)
      · skip
        have hk27 : 33 ≤ (mv_i S 74 4).toInt := z23.resolve_left (fun z => by
          rw [h27] at z
          rw [z] at hv9
          have hv9 : (-1 : Int) + k = 8 := hv9
          omega)
        refine mv_aload_n (pc := 30) B d_Book_binary_30 rfl 1 rfl ?_
        refine mv_getI (pc := 31) (ci := 12) (C := R_Book) (T := F_Book) (N := 65) B 4 rfl rfl (by decide) i_Book (B.2.2.2.1 _ k_1847) rfl d_Book_binary_31 ?_
        refine mv_istore_n (pc := 34) B d_Book_binary_34 rfl (by decide) rfl ?_
        refine mv_aload_n (pc := 35) B d_Book_binary_35 rfl 2 rfl ?_
        refine mv_getI (pc := 36) (ci := 12) (C := R_Book) (T := F_Book) (N := 65) B 5 rfl rfl (by decide) i_Book (B.2.2.2.1 _ k_1848) rfl d_Book_binary_36 ?_
        refine mv_istore (pc := 39) B d_Book_binary_39 (by decide) rfl ?_
        refine mv_aload_n (pc := 41) B d_Book_binary_41 rfl 3 rfl ?_
        refine mv_callVUv (pc := 42) (n := 0) (ci := 12) (C := R_Book) B (mK_ok sk sv) hNs rfl rfl (c_Book_pass_x l hi _ len _ _ hS.P.1) rfl (ma_goodc kc_Book_pass) (B.2.2.2.1 _ k_2173) (B.2.2.2.1 _ k_2175) (B.2.2.2.1 _ ks_90) (B.2.2.2.1 _ k_13) ⟨by decide +kernel, by decide +kernel, by decide +kernel⟩ rfl d_Book_binary_42 rfl (Nat.le_of_ble_eq_true rfl) ⟨by first | decide | (dsimp only; omega), by first | decide | (dsimp only; omega)⟩ ⟨Nat.le_refl _, Nat.le_refl _⟩ ⟨Nat.le_refl _, Nat.le_refl _⟩ (mv_noH hno _) (fun τ9 g9 => Or.inr ⟨rfl, hS.1.2.1.bf.tr g9.bf⟩) (fun σ42 h42 => ?_)
        have w42 := hS.P.w (by intro z; rcases z with z | z <;> rw [z] at hk27 <;> exact absurd hk27 (by decide))
        obtain ⟨d42, t42, u42, q42, g42⟩ := h42
        rw [hS.P.2.1] at d42
        have hL0 := hS.le
        have hS := hS.pass q42 g42
        refine mv_aload_n (pc := 45) B d_Book_binary_45 rfl 3 rfl ?_
        refine mv_iload_n (pc := 46) B d_Book_binary_46 rfl 1 rfl ?_
        refine mv_iload (pc := 47) B d_Book_binary_47 0 rfl ?_
        refine mv_iload_n (pc := 49) B d_Book_binary_49 rfl 2 rfl ?_
        refine mv_aload_n (pc := 50) B d_Book_binary_50 rfl 3 rfl ?_
        refine mv_iload_n (pc := 51) B d_Book_binary_51 rfl 4 rfl ?_
        refine mv_iconst (pc := 52) (v := 1) B d_Book_binary_52 (by decide) ?_
        refine mv_iadd (pc := 53) B d_Book_binary_53 ?_
        refine mv_topi (fun y53 ey53 => ?_)
        have fy53 := i32_addE ey53 (by (try simp only [Int32.reduceToInt]); omega) (by (try simp only [Int32.reduceToInt]); omega)
        try simp only [Int32.reduceToInt] at fy53
        refine mv_callVUi (pc := 54) (n := 1) (ci := 12) (C := R_Book) B (mK_ok sk sv) hNs rfl rfl (ihB (k - 1) (by omega) y53 (by omega) _ len th _ _ _ _ hf hS.P) rfl (ma_goodc kc_Book_binary) (B.2.2.2.1 _ k_2249) (B.2.2.2.1 _ k_2251) (B.2.2.2.1 _ ks_105) (B.2.2.2.1 _ k_13) ⟨by decide +kernel, by decide +kernel, by decide +kernel⟩ rfl d_Book_binary_54 rfl (Nat.le_of_ble_eq_true rfl) ⟨by first | decide | (dsimp only; omega), by first | decide | (dsimp only; omega)⟩ ⟨Nat.le_refl _, Nat.le_refl _⟩ ⟨Nat.le_refl _, Nat.le_refl _⟩ (mv_noH hno _) (fun τ9 g9 => Or.inr ⟨rfl, hS.1.2.1.bf.tr g9⟩) (fun v54 σ54 h54 => ?_)
        obtain ⟨n54, t54, u54, s54, m54, r54, x54⟩ := h54
        have i54 := s54.2.2.2.1
        have hS := hS.sub s54 x54
        have hL54 := hS.le
        refine mv_callVi (pc := 57) (n := 4) (ci := 12) (C := R_Book) B (mK_ok sk sv) hNs rfl rfl (c_Book_two_x l hi _ _ _ _ _ (i32_in (by omega) (by omega)) (i32_in (by omega) (by omega)) hS.R (by omega) (by omega)) rfl (ma_goodc kc_Book_two) (B.2.2.2.1 _ k_2288) (B.2.2.2.1 _ k_2290) (B.2.2.2.1 _ ks_114) (B.2.2.2.1 _ k_13) ⟨by decide +kernel, by decide +kernel, by decide +kernel⟩ rfl d_Book_binary_57 rfl (Nat.le_of_ble_eq_true rfl) ⟨by first | decide | (dsimp only; omega), by first | decide | (dsimp only; omega)⟩ ⟨Nat.le_refl _, Nat.le_refl _⟩ ⟨Nat.le_refl _, Nat.le_refl _⟩ (mv_noH hno _) (fun v57 σ57 h57 => ?_)
        obtain ⟨e57, τ57, w57, hT57, z57⟩ := h57
        have hS := hS.ft hT57
        have hN := hS.nodeE z57 (lo := n) (R := 10 * f + k) (by omega) hn0 (fun zz => XR.bin (hS.2.at 1 rfl zz) (hS.2.at 0 rfl zz) hn8 m54 hS.P.nn hx8 r54 (Nat.le_refl _) (by omega))
        have hv57 : v57.toInt + 1 = ((n54 + 1 : Nat) : Int) := by rw [e57]; omega
        refine mv_istore_n (pc := 60) B d_Book_binary_60 rfl (by decide) rfl ?_
        refine mv_goto (pc := 61) (tgt := 19) B d_Book_binary_61 rfl ?_
        refine mv_lpick [0, 3, 4] rfl ?_
        exact ih _ _ _ _ _ hN (by omega) hv57 hk1 (by omega)
  refine mv_iload_n (pc := 0) B d_Book_binary_0 rfl 1 rfl ?_
  refine mv_bipush (pc := 1) (v := 8) B d_Book_binary_1 (by decide) ?_
  refine mv_icmp_ne (pc := 3) (tgt := 11) B d_Book_binary_3 rfl (fun h3 => ?_) (fun h3 => ?_)
  · skip
    have hk1 : 1 ≤ k := Nat.pos_of_ne_zero (fun z => h3 (Int32.toInt_inj.mp (by show v9.toInt = 8; omega)))
    refine mv_aload_n (pc := 11) B d_Book_binary_11 rfl 0 rfl ?_
    refine mv_iload_n (pc := 12) B d_Book_binary_12 rfl 1 rfl ?_
    refine mv_iconst (pc := 13) (v := 1) B d_Book_binary_13 (by decide) ?_
    refine mv_iadd (pc := 14) B d_Book_binary_14 ?_
    refine mv_topi (fun y14 ey14 => ?_)
    have fy14 := i32_addE ey14 (by (try simp only [Int32.reduceToInt]); omega) (by (try simp only [Int32.reduceToInt]); omega)
    try simp only [Int32.reduceToInt] at fy14
    refine mv_callVUi (pc := 15) (n := 1) (ci := 12) (C := R_Book) B (mK_ok sk sv) hNs rfl rfl (ihB (k - 1) (by omega) y14 (by omega) _ len th _ _ _ _ hf hS.P) rfl (ma_goodc kc_Book_binary) (B.2.2.2.1 _ k_2249) (B.2.2.2.1 _ k_2251) (B.2.2.2.1 _ ks_105) (B.2.2.2.1 _ k_13) ⟨by decide +kernel, by decide +kernel, by decide +kernel⟩ rfl d_Book_binary_15 rfl (Nat.le_of_ble_eq_true rfl) ⟨by first | decide | (dsimp only; omega), by first | decide | (dsimp only; omega)⟩ ⟨Nat.le_refl _, Nat.le_refl _⟩ ⟨Nat.le_refl _, Nat.le_refl _⟩ (mv_noH hno _) (fun τ9 g9 => Or.inr ⟨rfl, hS.1.2.1.bf.tr g9⟩) (fun v15 σ15 h15 => ?_)
    obtain ⟨n15, t15, u15, s15, m15, r15, x15⟩ := h15
    have i15 := s15.2.2.2.1
    have hS := hS.sub s15 x15
    refine mv_istore_n (pc := 18) B d_Book_binary_18 rfl (by decide) rfl ?_
    refine mv_lpick [0, 1, 2] rfl ?_
    exact lp _ _ _ _ _ _ (hS.w (by omega)) m15 r15 hk1 (Nat.lt_succ_self _)
  · skip
    refine mv_aload_n (pc := 6) B d_Book_binary_6 rfl 0 rfl ?_
    refine mv_callVUi (pc := 7) (n := 0) (ci := 12) (C := R_Book) B (mK_ok sk sv) hNs rfl rfl (hU _ len th _ _ _ _ hf hS.P) rfl (ma_goodc kc_Book_unary) (B.2.2.2.1 _ k_2253) (B.2.2.2.1 _ k_2255) (B.2.2.2.1 _ ks_106) (B.2.2.2.1 _ k_13) ⟨by decide +kernel, by decide +kernel, by decide +kernel⟩ rfl d_Book_binary_7 rfl (Nat.le_of_ble_eq_true rfl) ⟨by first | decide | (dsimp only; omega), by first | decide | (dsimp only; omega)⟩ ⟨Nat.le_refl _, Nat.le_refl _⟩ ⟨Nat.le_refl _, Nat.le_refl _⟩ (mv_noH hno _) (fun τ9 g9 => Or.inr ⟨rfl, hS.1.2.1.bf.tr g9⟩) (fun v7 σ7 h7 => ?_)
    obtain ⟨n7, t7, u7, s7, m7, r7, x7⟩ := h7
    have i7 := s7.2.2.2.1
    have hS := hS.sub s7 x7
    exact mv_iret (pc := 10) B hr rfl d_Book_binary_10 (Nat.le_refl _) (Nat.le_refl _) (Or.inl ⟨_, rfl, hS.out r7 m7 0 rfl (by omega)⟩)
set_option maxHeartbeats 4000000 in
set_option maxRecDepth 100000 in
theorem c_Book_binary_y (l : Launch) {dA : FieldType → ClassId} {D : va_G} {al : Nat → Nat} {ext : mv_Sh} {sk sv : Nat → Nat} (hi : mv_inj (mg dA D al ext)) (σ : mv_H) (f len th d n a1 a2 : Nat) (hf : d + f = 61) (hP : PS 108 len th d n a1 a2 σ) (k : Nat) (v9 : Int32) (hv9 : v9.toInt + k = 8) (hk8 : k ≤ 8) (ihB : ∀ j, j + 1 = k → XB l dA D al ext sk sv 108 f j) (hU : XU l dA D al ext sk sv 108 f) : mv_C l y_Book_binary (Cond.code y_Book_binary b_Book_binary 5 (Option.some Jvm.ClassFile.FieldType.int) :: ma) ({ frames := 14 * f + 14 + k, cells := 0, slots := 0, locals := 500 * f + 600 + 25 * k }) (mg dA D al ext) (mK sk sv) [.ref (al 108), .int v9] σ (mv_Ui (XO 108 len th d n a1 (10 * f + k) σ) ("MachineLoomModel$Book$Wrong", al 141) (BF 108 σ)) := by
  refine mv_C.ofV (cc := b_Book_binary) (nL := 5) (ret := (Option.some Jvm.ClassFile.FieldType.int)) (by decide +kernel) rfl hi (Nat.le_of_ble_eq_true rfl) ?_
  intro p e s m below meth c B hNs hr hnm hno
  have hS := XT.rf hP
  have hn0 := hP.le.1
  have hv0 := i32_rng v9
  have lp : ∀ (nn : Nat) (S : mv_H) (n8 : Nat) (t8 : Nat) (u8 : Nat) (x8 : Int32) (hS : XT 108 len th σ n a1 S d n8 t8 u8 [(n, n8, 10 * f + k)]) (hn8 : n < n8) (hx8 : x8.toInt + 1 = n8) (hk1 : 1 ≤ k), len + 1 - t8 < nn → mv_V p l e ({ frames := 14 * f + 14 + k, cells := 0, slots := 0, locals := 500 * f + 600 + 25 * k }) s m ([.ref (al 108), .int v9] : List Value).toArray below meth c (mg dA D al ext) 5 0 0 (mv_Q (mg dA D al ext) below s 0 0 (mv_Ui (XO 108 len th d n a1 (10 * f + k) σ) ("MachineLoomModel$Book$Wrong", al 141) (BF 108 σ))) S 19 [(2, .int x8), (0, .ref (al 108)), (1, .int v9)] [] := by
    intro nn
    induction nn with
    | zero => intro S n8 t8 u8 x8 hS hn8 hx8 hk1 hm; exact absurd hm (Nat.not_lt_zero _)
    | succ nn ih =>
      intro S n8 t8 u8 x8 hS hn8 hx8 hk1 hm
      have hL19 := hS.le
      refine mv_aload_n (pc := 19) B d_Book_binary_19 rfl 1 rfl ?_
      refine mv_getI (pc := 20) (ci := 12) (C := R_Book) (T := F_Book) (N := 65) B 4 rfl rfl (by decide) i_Book (B.2.2.2.1 _ k_1847) rfl d_Book_binary_20 ?_
      refine mv_callSi (pc := 23) (n := 1) B (mK_ok sk sv) hNs (c_Book_levelOf l hi _ _) rfl (ma_goodc kc_Book_levelOf) (B.2.2.2.1 _ k_2318) (B.2.2.2.1 _ k_2319) (B.2.2.2.1 _ k_13) ⟨by decide +kernel, by decide +kernel, by decide +kernel⟩ rfl d_Book_binary_23 rfl (Nat.le_of_ble_eq_true rfl) ⟨by first | decide | (dsimp only; omega), by first | decide | (dsimp only; omega)⟩ ⟨Nat.le_refl _, Nat.le_refl _⟩ ⟨Nat.le_refl _, Nat.le_refl _⟩ (mv_noH hno _) (fun v23 σ23 h23 => ?_)
      obtain ⟨e23, z23⟩ := h23
      have e23 := e23.symm
      subst e23
      refine mv_iload_n (pc := 26) B d_Book_binary_26 rfl 2 rfl ?_
      refine mv_icmp_ne (pc := 27) (tgt := 64) B d_Book_binary_27 rfl (fun h27 => ?_) (fun h27 => ?_)
      · skip
        refine mv_iload_n (pc := 64) B d_Book_binary_64 rfl 0 rfl ?_
        exact mv_iret (pc := 65) B hr rfl d_Book_binary_65 (Nat.le_refl _) (Nat.le_refl _) (Or.inl ⟨_, rfl, hS.out hx8 hn8 0 rfl (Nat.le_refl _)⟩)
      · skip
        have hk27 : 33 ≤ (mv_i S 108 4).toInt := z23.resolve_left (fun z => by
          rw [h27] at z
          rw [z] at hv9
          have hv9 : (-1 : Int) + k = 8 := hv9
          omega)
        refine mv_aload_n (pc := 30) B d_Book_binary_30 rfl 1 rfl ?_
        refine mv_getI (pc := 31) (ci := 12) (C := R_Book) (T := F_Book) (N := 65) B 4 rfl rfl (by decide) i_Book (B.2.2.2.1 _ k_1847) rfl d_Book_binary_31 ?_
        refine mv_istore_n (pc := 34) B d_Book_binary_34 rfl (by decide) rfl ?_
        refine mv_aload_n (pc := 35) B d_Book_binary_35 rfl 2 rfl ?_
        refine mv_getI (pc := 36) (ci := 12) (C := R_Book) (T := F_Book) (N := 65) B 5 rfl rfl (by decide) i_Book (B.2.2.2.1 _ k_1848) rfl d_Book_binary_36 ?_
        refine mv_istore (pc := 39) B d_Book_binary_39 (by decide) rfl ?_
        refine mv_aload_n (pc := 41) B d_Book_binary_41 rfl 3 rfl ?_
        refine mv_callVUv (pc := 42) (n := 0) (ci := 12) (C := R_Book) B (mK_ok sk sv) hNs rfl rfl (c_Book_pass_y l hi _ len _ _ hS.P.1) rfl (ma_goodc kc_Book_pass) (B.2.2.2.1 _ k_2173) (B.2.2.2.1 _ k_2175) (B.2.2.2.1 _ ks_90) (B.2.2.2.1 _ k_13) ⟨by decide +kernel, by decide +kernel, by decide +kernel⟩ rfl d_Book_binary_42 rfl (Nat.le_of_ble_eq_true rfl) ⟨by first | decide | (dsimp only; omega), by first | decide | (dsimp only; omega)⟩ ⟨Nat.le_refl _, Nat.le_refl _⟩ ⟨Nat.le_refl _, Nat.le_refl _⟩ (mv_noH hno _) (fun τ9 g9 => Or.inr ⟨rfl, hS.1.2.1.bf.tr g9.bf⟩) (fun σ42 h42 => ?_)
        have w42 := hS.P.w (by intro z; rcases z with z | z <;> rw [z] at hk27 <;> exact absurd hk27 (by decide))
        obtain ⟨d42, t42, u42, q42, g42⟩ := h42
        rw [hS.P.2.1] at d42
        have hL0 := hS.le
        have hS := hS.pass q42 g42
        refine mv_aload_n (pc := 45) B d_Book_binary_45 rfl 3 rfl ?_
        refine mv_iload_n (pc := 46) B d_Book_binary_46 rfl 1 rfl ?_
        refine mv_iload (pc := 47) B d_Book_binary_47 0 rfl ?_
        refine mv_iload_n (pc := 49) B d_Book_binary_49 rfl 2 rfl ?_
        refine mv_aload_n (pc := 50) B d_Book_binary_50 rfl 3 rfl ?_
        refine mv_iload_n (pc := 51) B d_Book_binary_51 rfl 4 rfl ?_
        refine mv_iconst (pc := 52) (v := 1) B d_Book_binary_52 (by decide) ?_
        refine mv_iadd (pc := 53) B d_Book_binary_53 ?_
        refine mv_topi (fun y53 ey53 => ?_)
        have fy53 := i32_addE ey53 (by (try simp only [Int32.reduceToInt]); omega) (by (try simp only [Int32.reduceToInt]); omega)
        try simp only [Int32.reduceToInt] at fy53
        refine mv_callVUi (pc := 54) (n := 1) (ci := 12) (C := R_Book) B (mK_ok sk sv) hNs rfl rfl (ihB (k - 1) (by omega) y53 (by omega) _ len th _ _ _ _ hf hS.P) rfl (ma_goodc kc_Book_binary) (B.2.2.2.1 _ k_2249) (B.2.2.2.1 _ k_2251) (B.2.2.2.1 _ ks_105) (B.2.2.2.1 _ k_13) ⟨by decide +kernel, by decide +kernel, by decide +kernel⟩ rfl d_Book_binary_54 rfl (Nat.le_of_ble_eq_true rfl) ⟨by first | decide | (dsimp only; omega), by first | decide | (dsimp only; omega)⟩ ⟨Nat.le_refl _, Nat.le_refl _⟩ ⟨Nat.le_refl _, Nat.le_refl _⟩ (mv_noH hno _) (fun τ9 g9 => Or.inr ⟨rfl, hS.1.2.1.bf.tr g9⟩) (fun v54 σ54 h54 => ?_)
        obtain ⟨n54, t54, u54, s54, m54, r54, x54⟩ := h54
        have i54 := s54.2.2.2.1
        have hS := hS.sub s54 x54
        have hL54 := hS.le
        refine mv_callVi (pc := 57) (n := 4) (ci := 12) (C := R_Book) B (mK_ok sk sv) hNs rfl rfl (c_Book_two_y l hi _ _ _ _ _ (i32_in (by omega) (by omega)) (i32_in (by omega) (by omega)) hS.R (by omega) (by omega)) rfl (ma_goodc kc_Book_two) (B.2.2.2.1 _ k_2288) (B.2.2.2.1 _ k_2290) (B.2.2.2.1 _ ks_114) (B.2.2.2.1 _ k_13) ⟨by decide +kernel, by decide +kernel, by decide +kernel⟩ rfl d_Book_binary_57 rfl (Nat.le_of_ble_eq_true rfl) ⟨by first | decide | (dsimp only; omega), by first | decide | (dsimp only; omega)⟩ ⟨Nat.le_refl _, Nat.le_refl _⟩ ⟨Nat.le_refl _, Nat.le_refl _⟩ (mv_noH hno _) (fun v57 σ57 h57 => ?_)
        obtain ⟨e57, τ57, w57, hT57, z57⟩ := h57
        have hS := hS.ft hT57
        have hN := hS.nodeE z57 (lo := n) (R := 10 * f + k) (by omega) hn0 (fun zz => XR.bin (hS.2.at 1 rfl zz) (hS.2.at 0 rfl zz) hn8 m54 hS.P.nn hx8 r54 (Nat.le_refl _) (by omega))
        have hv57 : v57.toInt + 1 = ((n54 + 1 : Nat) : Int) := by rw [e57]; omega
        refine mv_istore_n (pc := 60) B d_Book_binary_60 rfl (by decide) rfl ?_
        refine mv_goto (pc := 61) (tgt := 19) B d_Book_binary_61 rfl ?_
        refine mv_lpick [0, 3, 4] rfl ?_
        exact ih _ _ _ _ _ hN (by omega) hv57 hk1 (by omega)
  refine mv_iload_n (pc := 0) B d_Book_binary_0 rfl 1 rfl ?_
  refine mv_bipush (pc := 1) (v := 8) B d_Book_binary_1 (by decide) ?_
  refine mv_icmp_ne (pc := 3) (tgt := 11) B d_Book_binary_3 rfl (fun h3 => ?_) (fun h3 => ?_)
  · skip
    have hk1 : 1 ≤ k := Nat.pos_of_ne_zero (fun z => h3 (Int32.toInt_inj.mp (by show v9.toInt = 8; omega)))
    refine mv_aload_n (pc := 11) B d_Book_binary_11 rfl 0 rfl ?_
    refine mv_iload_n (pc := 12) B d_Book_binary_12 rfl 1 rfl ?_
    refine mv_iconst (pc := 13) (v := 1) B d_Book_binary_13 (by decide) ?_
    refine mv_iadd (pc := 14) B d_Book_binary_14 ?_
    refine mv_topi (fun y14 ey14 => ?_)
    have fy14 := i32_addE ey14 (by (try simp only [Int32.reduceToInt]); omega) (by (try simp only [Int32.reduceToInt]); omega)
    try simp only [Int32.reduceToInt] at fy14
    refine mv_callVUi (pc := 15) (n := 1) (ci := 12) (C := R_Book) B (mK_ok sk sv) hNs rfl rfl (ihB (k - 1) (by omega) y14 (by omega) _ len th _ _ _ _ hf hS.P) rfl (ma_goodc kc_Book_binary) (B.2.2.2.1 _ k_2249) (B.2.2.2.1 _ k_2251) (B.2.2.2.1 _ ks_105) (B.2.2.2.1 _ k_13) ⟨by decide +kernel, by decide +kernel, by decide +kernel⟩ rfl d_Book_binary_15 rfl (Nat.le_of_ble_eq_true rfl) ⟨by first | decide | (dsimp only; omega), by first | decide | (dsimp only; omega)⟩ ⟨Nat.le_refl _, Nat.le_refl _⟩ ⟨Nat.le_refl _, Nat.le_refl _⟩ (mv_noH hno _) (fun τ9 g9 => Or.inr ⟨rfl, hS.1.2.1.bf.tr g9⟩) (fun v15 σ15 h15 => ?_)
    obtain ⟨n15, t15, u15, s15, m15, r15, x15⟩ := h15
    have i15 := s15.2.2.2.1
    have hS := hS.sub s15 x15
    refine mv_istore_n (pc := 18) B d_Book_binary_18 rfl (by decide) rfl ?_
    refine mv_lpick [0, 1, 2] rfl ?_
    exact lp _ _ _ _ _ _ (hS.w (by omega)) m15 r15 hk1 (Nat.lt_succ_self _)
  · skip
    refine mv_aload_n (pc := 6) B d_Book_binary_6 rfl 0 rfl ?_
    refine mv_callVUi (pc := 7) (n := 0) (ci := 12) (C := R_Book) B (mK_ok sk sv) hNs rfl rfl (hU _ len th _ _ _ _ hf hS.P) rfl (ma_goodc kc_Book_unary) (B.2.2.2.1 _ k_2253) (B.2.2.2.1 _ k_2255) (B.2.2.2.1 _ ks_106) (B.2.2.2.1 _ k_13) ⟨by decide +kernel, by decide +kernel, by decide +kernel⟩ rfl d_Book_binary_7 rfl (Nat.le_of_ble_eq_true rfl) ⟨by first | decide | (dsimp only; omega), by first | decide | (dsimp only; omega)⟩ ⟨Nat.le_refl _, Nat.le_refl _⟩ ⟨Nat.le_refl _, Nat.le_refl _⟩ (mv_noH hno _) (fun τ9 g9 => Or.inr ⟨rfl, hS.1.2.1.bf.tr g9⟩) (fun v7 σ7 h7 => ?_)
    obtain ⟨n7, t7, u7, s7, m7, r7, x7⟩ := h7
    have i7 := s7.2.2.2.1
    have hS := hS.sub s7 x7
    exact mv_iret (pc := 10) B hr rfl d_Book_binary_10 (Nat.le_refl _) (Nat.le_refl _) (Or.inl ⟨_, rfl, hS.out r7 m7 0 rfl (by omega)⟩)
theorem k_2321 : (Jvm.Cond.methodLink "MachineLoomModel$Book" (263 : Nat) ({ cls := "MachineLoomModel$Book", name := "chosen", desc := "(IIII)I" } : Jvm.MethodName)) ∈ ma := ma_of (tb_10 _ (List.mem_of_getElem? (i := 161) rfl)) rfl
theorem k_2323 : (Jvm.Cond.instanceMethod ({ cls := "MachineLoomModel$Book", name := "chosen", desc := "(IIII)I" } : Jvm.MethodName)) ∈ ma := ma_of (tb_10 _ (List.mem_of_getElem? (i := 163) rfl)) rfl
theorem ks_119 : Cond.selects "MachineLoomModel$Book" ⟨"MachineLoomModel$Book", "chosen", "(IIII)I"⟩ ⟨"MachineLoomModel$Book", "chosen", "(IIII)I"⟩ ∈ ma := ma_sel 119 rfl rfl
theorem d_Book_expression_0 : decode b_Book_expression 0 = .ok (.aload_n 0, 1) := by decide +kernel
theorem d_Book_expression_1 : decode b_Book_expression 1 = .ok (.iconst 0, 1) := by decide +kernel
theorem d_Book_expression_2 : decode b_Book_expression 2 = .ok (.invokevirtual 253, 3) := by decide +kernel
theorem d_Book_expression_5 : decode b_Book_expression 5 = .ok (.istore_n 1, 1) := by decide +kernel
theorem d_Book_expression_6 : decode b_Book_expression 6 = .ok (.aload_n 0, 1) := by decide +kernel
theorem d_Book_expression_7 : decode b_Book_expression 7 = .ok (.getfield 151, 3) := by decide +kernel
theorem d_Book_expression_10 : decode b_Book_expression 10 = .ok (.bipush 63, 2) := by decide +kernel
theorem d_Book_expression_12 : decode b_Book_expression 12 = .ok (.if_icmp .eq (5), 3) := by decide +kernel
theorem d_Book_expression_15 : decode b_Book_expression 15 = .ok (.iload_n 1, 1) := by decide +kernel
theorem d_Book_expression_16 : decode b_Book_expression 16 = .ok (.ireturn, 1) := by decide +kernel
theorem d_Book_expression_17 : decode b_Book_expression 17 = .ok (.aload_n 0, 1) := by decide +kernel
theorem d_Book_expression_18 : decode b_Book_expression 18 = .ok (.getfield 174, 3) := by decide +kernel
theorem d_Book_expression_21 : decode b_Book_expression 21 = .ok (.istore_n 2, 1) := by decide +kernel
theorem d_Book_expression_22 : decode b_Book_expression 22 = .ok (.aload_n 0, 1) := by decide +kernel
theorem d_Book_expression_23 : decode b_Book_expression 23 = .ok (.invokevirtual 203, 3) := by decide +kernel
theorem d_Book_expression_26 : decode b_Book_expression 26 = .ok (.aload_n 0, 1) := by decide +kernel
theorem d_Book_expression_27 : decode b_Book_expression 27 = .ok (.dup, 1) := by decide +kernel
theorem d_Book_expression_28 : decode b_Book_expression 28 = .ok (.getfield 197, 3) := by decide +kernel
theorem d_Book_expression_31 : decode b_Book_expression 31 = .ok (.iconst 1, 1) := by decide +kernel
theorem d_Book_expression_32 : decode b_Book_expression 32 = .ok (.iadd, 1) := by decide +kernel
theorem d_Book_expression_33 : decode b_Book_expression 33 = .ok (.putfield 197, 3) := by decide +kernel
theorem d_Book_expression_36 : decode b_Book_expression 36 = .ok (.aload_n 0, 1) := by decide +kernel
theorem d_Book_expression_37 : decode b_Book_expression 37 = .ok (.invokevirtual 256, 3) := by decide +kernel
theorem d_Book_expression_40 : decode b_Book_expression 40 = .ok (.istore_n 3, 1) := by decide +kernel
theorem d_Book_expression_41 : decode b_Book_expression 41 = .ok (.aload_n 0, 1) := by decide +kernel
theorem d_Book_expression_42 : decode b_Book_expression 42 = .ok (.bipush 58, 2) := by decide +kernel
theorem d_Book_expression_44 : decode b_Book_expression 44 = .ok (.invokevirtual 259, 3) := by decide +kernel
theorem d_Book_expression_47 : decode b_Book_expression 47 = .ok (.aload_n 0, 1) := by decide +kernel
theorem d_Book_expression_48 : decode b_Book_expression 48 = .ok (.invokevirtual 256, 3) := by decide +kernel
theorem d_Book_expression_51 : decode b_Book_expression 51 = .ok (.istore 4, 2) := by decide +kernel
theorem d_Book_expression_53 : decode b_Book_expression 53 = .ok (.aload_n 0, 1) := by decide +kernel
theorem d_Book_expression_54 : decode b_Book_expression 54 = .ok (.dup, 1) := by decide +kernel
theorem d_Book_expression_55 : decode b_Book_expression 55 = .ok (.getfield 197, 3) := by decide +kernel
theorem d_Book_expression_58 : decode b_Book_expression 58 = .ok (.iconst 1, 1) := by decide +kernel
theorem d_Book_expression_59 : decode b_Book_expression 59 = .ok (.isub, 1) := by decide +kernel
theorem d_Book_expression_60 : decode b_Book_expression 60 = .ok (.putfield 197, 3) := by decide +kernel
theorem d_Book_expression_63 : decode b_Book_expression 63 = .ok (.aload_n 0, 1) := by decide +kernel
theorem d_Book_expression_64 : decode b_Book_expression 64 = .ok (.iload_n 2, 1) := by decide +kernel
theorem d_Book_expression_65 : decode b_Book_expression 65 = .ok (.iload_n 1, 1) := by decide +kernel
theorem d_Book_expression_66 : decode b_Book_expression 66 = .ok (.iload_n 3, 1) := by decide +kernel
theorem d_Book_expression_67 : decode b_Book_expression 67 = .ok (.iload 4, 2) := by decide +kernel
theorem d_Book_expression_69 : decode b_Book_expression 69 = .ok (.invokevirtual 263, 3) := by decide +kernel
theorem d_Book_expression_72 : decode b_Book_expression 72 = .ok (.ireturn, 1) := by decide +kernel
set_option maxHeartbeats 4000000 in
set_option maxRecDepth 100000 in
theorem c_Book_expression_x (l : Launch) {dA : FieldType → ClassId} {D : va_G} {al : Nat → Nat} {ext : mv_Sh} {sk sv : Nat → Nat} (hi : mv_inj (mg dA D al ext)) (σ : mv_H) (f len th d n a1 a2 : Nat) (hf : d + f = 61) (hP : PS 74 len th d n a1 a2 σ) (ihE : ∀ g, g + 1 = f → XE l dA D al ext sk sv 74 g) (hB : XB l dA D al ext sk sv 74 f 8) : mv_C l y_Book_expression (Cond.code y_Book_expression b_Book_expression 5 (Option.some Jvm.ClassFile.FieldType.int) :: ma) ({ frames := 14 * f + 23, cells := 0, slots := 0, locals := 500 * f + 840 }) (mg dA D al ext) (mK sk sv) [.ref (al 74)] σ (mv_Ui (XO 74 len th d n a1 (10 * f + 9) σ) ("MachineLoomModel$Book$Wrong", al 107) (BF 74 σ)) := by
  refine mv_C.ofV (cc := b_Book_expression) (nL := 5) (ret := (Option.some Jvm.ClassFile.FieldType.int)) (by decide +kernel) rfl hi (Nat.le_of_ble_eq_true rfl) ?_
  intro p e s m below meth c B hNs hr hnm hno
  have hS := XT.rf hP
  have hn0 := hP.le.1
  refine mv_aload_n (pc := 0) B d_Book_expression_0 rfl 0 rfl ?_
  refine mv_iconst (pc := 1) (v := 0) B d_Book_expression_1 (by decide) ?_
  refine mv_callVUi (pc := 2) (n := 1) (ci := 12) (C := R_Book) B (mK_ok sk sv) hNs rfl rfl (hB 0 (by decide) _ len th _ _ _ _ hf hS.P) rfl (ma_goodc kc_Book_binary) (B.2.2.2.1 _ k_2249) (B.2.2.2.1 _ k_2251) (B.2.2.2.1 _ ks_105) (B.2.2.2.1 _ k_13) ⟨by decide +kernel, by decide +kernel, by decide +kernel⟩ rfl d_Book_expression_2 rfl (Nat.le_of_ble_eq_true rfl) ⟨by first | decide | (dsimp only; omega), by first | decide | (dsimp only; omega)⟩ ⟨Nat.le_refl _, Nat.le_refl _⟩ ⟨Nat.le_refl _, Nat.le_refl _⟩ (mv_noH hno _) (fun τ9 g9 => Or.inr ⟨rfl, hS.1.2.1.bf.tr g9⟩) (fun v2 σ2 h2 => ?_)
  obtain ⟨n2, t2, u2, s2, m2, r2, x2⟩ := h2
  have i2 := s2.2.2.2.1
  have hS := hS.sub s2 x2
  refine mv_istore_n (pc := 5) B d_Book_expression_5 rfl (by decide) rfl ?_
  refine mv_aload_n (pc := 6) B d_Book_expression_6 rfl 1 rfl ?_
  refine mv_getI (pc := 7) (ci := 12) (C := R_Book) (T := F_Book) (N := 65) B 4 rfl rfl (by decide) i_Book (B.2.2.2.1 _ k_1847) rfl d_Book_expression_7 ?_
  refine mv_bipush (pc := 10) (v := 63) B d_Book_expression_10 (by decide) ?_
  refine mv_icmp_eq (pc := 12) (tgt := 17) B d_Book_expression_12 rfl (fun h12 => ?_) (fun h12 => ?_)
  · skip
    refine mv_aload_n (pc := 17) B d_Book_expression_17 rfl 1 rfl ?_
    refine mv_getI (pc := 18) (ci := 12) (C := R_Book) (T := F_Book) (N := 65) B 5 rfl rfl (by decide) i_Book (B.2.2.2.1 _ k_1848) rfl d_Book_expression_18 ?_
    refine mv_istore_n (pc := 21) B d_Book_expression_21 rfl (by decide) rfl ?_
    refine mv_aload_n (pc := 22) B d_Book_expression_22 rfl 2 rfl ?_
    refine mv_callVUv (pc := 23) (n := 0) (ci := 12) (C := R_Book) B (mK_ok sk sv) hNs rfl rfl (c_Book_pass_x l hi _ len _ _ hS.P.1) rfl (ma_goodc kc_Book_pass) (B.2.2.2.1 _ k_2173) (B.2.2.2.1 _ k_2175) (B.2.2.2.1 _ ks_90) (B.2.2.2.1 _ k_13) ⟨by decide +kernel, by decide +kernel, by decide +kernel⟩ rfl d_Book_expression_23 rfl (Nat.le_of_ble_eq_true rfl) ⟨by first | decide | (dsimp only; omega), by first | decide | (dsimp only; omega)⟩ ⟨Nat.le_refl _, Nat.le_refl _⟩ ⟨Nat.le_refl _, Nat.le_refl _⟩ (mv_noH hno _) (fun τ9 g9 => Or.inr ⟨rfl, hS.1.2.1.bf.tr g9.bf⟩) (fun σ23 h23 => ?_)
    have w23 := hS.P.w (by rw [h12]; decide)
    obtain ⟨d23, t23, u23, q23, g23⟩ := h23
    rw [hS.P.2.1] at d23
    have hL0 := hS.le
    have hS := hS.pass q23 g23
    refine mv_aload_n (pc := 26) B d_Book_expression_26 rfl 2 rfl ?_
    refine mv_dup (pc := 27) B d_Book_expression_27 rfl ?_
    refine mv_getI (pc := 28) (ci := 12) (C := R_Book) (T := F_Book) (N := 65) B 8 rfl rfl (by decide) i_Book (B.2.2.2.1 _ k_1851) rfl d_Book_expression_28 ?_
    refine mv_iconst (pc := 31) (v := 1) B d_Book_expression_31 (by decide) ?_
    refine mv_iadd (pc := 32) B d_Book_expression_32 ?_
    refine mv_putI (pc := 33) (ci := 12) (C := R_Book) (T := F_Book) (N := 65) B 8 rfl rfl (by decide) i_Book t_Book_ok n_Book (B.2.2.2.1 _ k_1851) rfl rfl rfl rfl d_Book_expression_33 ?_
    refine mv_gen (fun S36 eS36 => ?_)
    have hS := hS.dep (hS.P.up (by omega))
    rw [← eS36] at hS
    clear eS36
    refine mv_aload_n (pc := 36) B d_Book_expression_36 rfl 2 rfl ?_
    refine mv_callVUi (pc := 37) (n := 0) (ci := 12) (C := R_Book) B (mK_ok sk sv) hNs rfl rfl (ihE (f - 1) (by omega) _ len th _ _ _ _ (by omega) hS.P) rfl (ma_goodc kc_Book_expression) (B.2.2.2.1 _ k_2245) (B.2.2.2.1 _ k_2247) (B.2.2.2.1 _ ks_104) (B.2.2.2.1 _ k_13) ⟨by decide +kernel, by decide +kernel, by decide +kernel⟩ rfl d_Book_expression_37 rfl (Nat.le_of_ble_eq_true rfl) ⟨by first | decide | (dsimp only; omega), by first | decide | (dsimp only; omega)⟩ ⟨Nat.le_refl _, Nat.le_refl _⟩ ⟨Nat.le_refl _, Nat.le_refl _⟩ (mv_noH hno _) (fun τ9 g9 => Or.inr ⟨rfl, hS.1.2.1.bf.tr g9⟩) (fun v37 σ37 h37 => ?_)
    obtain ⟨n37, t37, u37, s37, m37, r37, x37⟩ := h37
    have i37 := s37.2.2.2.1
    have hS := hS.sub s37 x37
    refine mv_istore_n (pc := 40) B d_Book_expression_40 rfl (by decide) rfl ?_
    refine mv_aload_n (pc := 41) B d_Book_expression_41 rfl 3 rfl ?_
    refine mv_bipush (pc := 42) (v := 58) B d_Book_expression_42 (by decide) ?_
    refine mv_callVUv (pc := 44) (n := 1) (ci := 12) (C := R_Book) B (mK_ok sk sv) hNs rfl rfl (c_Book_need_x l hi _ _ len _ _ hS.P.1) rfl (ma_goodc kc_Book_need) (B.2.2.2.1 _ k_2177) (B.2.2.2.1 _ k_2179) (B.2.2.2.1 _ ks_91) (B.2.2.2.1 _ k_13) ⟨by decide +kernel, by decide +kernel, by decide +kernel⟩ rfl d_Book_expression_44 rfl (Nat.le_of_ble_eq_true rfl) ⟨by first | decide | (dsimp only; omega), by first | decide | (dsimp only; omega)⟩ ⟨Nat.le_refl _, Nat.le_refl _⟩ ⟨Nat.le_refl _, Nat.le_refl _⟩ (mv_noH hno _) (fun τ9 g9 => Or.inr ⟨rfl, hS.1.2.1.bf.tr g9.bf⟩) (fun σ44 h44 => ?_)
    obtain ⟨k44, d44, t44, u44, q44, g44⟩ := h44
    have w44 := hS.P.w (by rw [k44]; decide)
    rw [hS.P.2.1] at d44
    have hL0 := hS.le
    have hS := hS.pass q44 g44
    refine mv_aload_n (pc := 47) B d_Book_expression_47 rfl 3 rfl ?_
    refine mv_callVUi (pc := 48) (n := 0) (ci := 12) (C := R_Book) B (mK_ok sk sv) hNs rfl rfl (ihE (f - 1) (by omega) _ len th _ _ _ _ (by omega) hS.P) rfl (ma_goodc kc_Book_expression) (B.2.2.2.1 _ k_2245) (B.2.2.2.1 _ k_2247) (B.2.2.2.1 _ ks_104) (B.2.2.2.1 _ k_13) ⟨by decide +kernel, by decide +kernel, by decide +kernel⟩ rfl d_Book_expression_48 rfl (Nat.le_of_ble_eq_true rfl) ⟨by first | decide | (dsimp only; omega), by first | decide | (dsimp only; omega)⟩ ⟨Nat.le_refl _, Nat.le_refl _⟩ ⟨Nat.le_refl _, Nat.le_refl _⟩ (mv_noH hno _) (fun τ9 g9 => Or.inr ⟨rfl, hS.1.2.1.bf.tr g9⟩) (fun v48 σ48 h48 => ?_)
    obtain ⟨n48, t48, u48, s48, m48, r48, x48⟩ := h48
    have i48 := s48.2.2.2.1
    have hS := hS.sub s48 x48
    refine mv_istore (pc := 51) B d_Book_expression_51 (by decide) rfl ?_
    refine mv_aload_n (pc := 53) B d_Book_expression_53 rfl 4 rfl ?_
    refine mv_dup (pc := 54) B d_Book_expression_54 rfl ?_
    refine mv_getI (pc := 55) (ci := 12) (C := R_Book) (T := F_Book) (N := 65) B 8 rfl rfl (by decide) i_Book (B.2.2.2.1 _ k_1851) rfl d_Book_expression_55 ?_
    refine mv_iconst (pc := 58) (v := 1) B d_Book_expression_58 (by decide) ?_
    refine mv_isub (pc := 59) B d_Book_expression_59 ?_
    refine mv_putI (pc := 60) (ci := 12) (C := R_Book) (T := F_Book) (N := 65) B 8 rfl rfl (by decide) i_Book t_Book_ok n_Book (B.2.2.2.1 _ k_1851) rfl rfl rfl rfl d_Book_expression_60 ?_
    refine mv_gen (fun S63 eS63 => ?_)
    have hS := hS.dep hS.P.dn
    rw [← eS63] at hS
    clear eS63
    have hL63 := hS.le
    refine mv_aload_n (pc := 63) B d_Book_expression_63 rfl 4 rfl ?_
    refine mv_iload_n (pc := 64) B d_Book_expression_64 rfl 2 rfl ?_
    refine mv_iload_n (pc := 65) B d_Book_expression_65 rfl 3 rfl ?_
    refine mv_iload_n (pc := 66) B d_Book_expression_66 rfl 1 rfl ?_
    refine mv_iload (pc := 67) B d_Book_expression_67 0 rfl ?_
    refine mv_callVi (pc := 69) (n := 4) (ci := 12) (C := R_Book) B (mK_ok sk sv) hNs rfl rfl (c_Book_chosen_x l hi _ _ _ _ _ (i32_in (by omega) (by omega)) (i32_in (by omega) (by omega)) (i32_in (by omega) (by omega)) hS.R (by omega) (by omega)) rfl (ma_goodc kc_Book_chosen) (B.2.2.2.1 _ k_2321) (B.2.2.2.1 _ k_2323) (B.2.2.2.1 _ ks_119) (B.2.2.2.1 _ k_13) ⟨by decide +kernel, by decide +kernel, by decide +kernel⟩ rfl d_Book_expression_69 rfl (Nat.le_of_ble_eq_true rfl) ⟨by first | decide | (dsimp only; omega), by first | decide | (dsimp only; omega)⟩ ⟨Nat.le_refl _, Nat.le_refl _⟩ ⟨Nat.le_refl _, Nat.le_refl _⟩ (mv_noH hno _) (fun v69 σ69 h69 => ?_)
    obtain ⟨e69, τ69, w69, hT69, z69⟩ := h69
    have hS := hS.ft hT69
    have hN := hS.nodeE z69 (lo := n) (R := 10 * f + 9) (by omega) hn0 (fun zz => XR.choose (hS.2.at 2 rfl zz) (hS.2.at 1 rfl zz) (hS.2.at 0 rfl zz) m2 m37 m48 hS.P.nn r2 r37 r48 (by omega) (by omega) (by omega))
    have hv69 : v69.toInt + 1 = ((n48 + 1 : Nat) : Int) := by rw [e69]; omega
    exact mv_iret (pc := 72) B hr rfl d_Book_expression_72 (Nat.le_refl _) (Nat.le_refl _) (Or.inl ⟨_, rfl, hN.out hv69 (by omega) 0 rfl (Nat.le_refl _)⟩)
  · skip
    refine mv_iload_n (pc := 15) B d_Book_expression_15 rfl 0 rfl ?_
    exact mv_iret (pc := 16) B hr rfl d_Book_expression_16 (Nat.le_refl _) (Nat.le_refl _) (Or.inl ⟨_, rfl, hS.out r2 m2 0 rfl (by omega)⟩)
set_option maxHeartbeats 4000000 in
set_option maxRecDepth 100000 in
theorem c_Book_expression_y (l : Launch) {dA : FieldType → ClassId} {D : va_G} {al : Nat → Nat} {ext : mv_Sh} {sk sv : Nat → Nat} (hi : mv_inj (mg dA D al ext)) (σ : mv_H) (f len th d n a1 a2 : Nat) (hf : d + f = 61) (hP : PS 108 len th d n a1 a2 σ) (ihE : ∀ g, g + 1 = f → XE l dA D al ext sk sv 108 g) (hB : XB l dA D al ext sk sv 108 f 8) : mv_C l y_Book_expression (Cond.code y_Book_expression b_Book_expression 5 (Option.some Jvm.ClassFile.FieldType.int) :: ma) ({ frames := 14 * f + 23, cells := 0, slots := 0, locals := 500 * f + 840 }) (mg dA D al ext) (mK sk sv) [.ref (al 108)] σ (mv_Ui (XO 108 len th d n a1 (10 * f + 9) σ) ("MachineLoomModel$Book$Wrong", al 141) (BF 108 σ)) := by
  refine mv_C.ofV (cc := b_Book_expression) (nL := 5) (ret := (Option.some Jvm.ClassFile.FieldType.int)) (by decide +kernel) rfl hi (Nat.le_of_ble_eq_true rfl) ?_
  intro p e s m below meth c B hNs hr hnm hno
  have hS := XT.rf hP
  have hn0 := hP.le.1
  refine mv_aload_n (pc := 0) B d_Book_expression_0 rfl 0 rfl ?_
  refine mv_iconst (pc := 1) (v := 0) B d_Book_expression_1 (by decide) ?_
  refine mv_callVUi (pc := 2) (n := 1) (ci := 12) (C := R_Book) B (mK_ok sk sv) hNs rfl rfl (hB 0 (by decide) _ len th _ _ _ _ hf hS.P) rfl (ma_goodc kc_Book_binary) (B.2.2.2.1 _ k_2249) (B.2.2.2.1 _ k_2251) (B.2.2.2.1 _ ks_105) (B.2.2.2.1 _ k_13) ⟨by decide +kernel, by decide +kernel, by decide +kernel⟩ rfl d_Book_expression_2 rfl (Nat.le_of_ble_eq_true rfl) ⟨by first | decide | (dsimp only; omega), by first | decide | (dsimp only; omega)⟩ ⟨Nat.le_refl _, Nat.le_refl _⟩ ⟨Nat.le_refl _, Nat.le_refl _⟩ (mv_noH hno _) (fun τ9 g9 => Or.inr ⟨rfl, hS.1.2.1.bf.tr g9⟩) (fun v2 σ2 h2 => ?_)
  obtain ⟨n2, t2, u2, s2, m2, r2, x2⟩ := h2
  have i2 := s2.2.2.2.1
  have hS := hS.sub s2 x2
  refine mv_istore_n (pc := 5) B d_Book_expression_5 rfl (by decide) rfl ?_
  refine mv_aload_n (pc := 6) B d_Book_expression_6 rfl 1 rfl ?_
  refine mv_getI (pc := 7) (ci := 12) (C := R_Book) (T := F_Book) (N := 65) B 4 rfl rfl (by decide) i_Book (B.2.2.2.1 _ k_1847) rfl d_Book_expression_7 ?_
  refine mv_bipush (pc := 10) (v := 63) B d_Book_expression_10 (by decide) ?_
  refine mv_icmp_eq (pc := 12) (tgt := 17) B d_Book_expression_12 rfl (fun h12 => ?_) (fun h12 => ?_)
  · skip
    refine mv_aload_n (pc := 17) B d_Book_expression_17 rfl 1 rfl ?_
    refine mv_getI (pc := 18) (ci := 12) (C := R_Book) (T := F_Book) (N := 65) B 5 rfl rfl (by decide) i_Book (B.2.2.2.1 _ k_1848) rfl d_Book_expression_18 ?_
    refine mv_istore_n (pc := 21) B d_Book_expression_21 rfl (by decide) rfl ?_
    refine mv_aload_n (pc := 22) B d_Book_expression_22 rfl 2 rfl ?_
    refine mv_callVUv (pc := 23) (n := 0) (ci := 12) (C := R_Book) B (mK_ok sk sv) hNs rfl rfl (c_Book_pass_y l hi _ len _ _ hS.P.1) rfl (ma_goodc kc_Book_pass) (B.2.2.2.1 _ k_2173) (B.2.2.2.1 _ k_2175) (B.2.2.2.1 _ ks_90) (B.2.2.2.1 _ k_13) ⟨by decide +kernel, by decide +kernel, by decide +kernel⟩ rfl d_Book_expression_23 rfl (Nat.le_of_ble_eq_true rfl) ⟨by first | decide | (dsimp only; omega), by first | decide | (dsimp only; omega)⟩ ⟨Nat.le_refl _, Nat.le_refl _⟩ ⟨Nat.le_refl _, Nat.le_refl _⟩ (mv_noH hno _) (fun τ9 g9 => Or.inr ⟨rfl, hS.1.2.1.bf.tr g9.bf⟩) (fun σ23 h23 => ?_)
    have w23 := hS.P.w (by rw [h12]; decide)
    obtain ⟨d23, t23, u23, q23, g23⟩ := h23
    rw [hS.P.2.1] at d23
    have hL0 := hS.le
    have hS := hS.pass q23 g23
    refine mv_aload_n (pc := 26) B d_Book_expression_26 rfl 2 rfl ?_
    refine mv_dup (pc := 27) B d_Book_expression_27 rfl ?_
    refine mv_getI (pc := 28) (ci := 12) (C := R_Book) (T := F_Book) (N := 65) B 8 rfl rfl (by decide) i_Book (B.2.2.2.1 _ k_1851) rfl d_Book_expression_28 ?_
    refine mv_iconst (pc := 31) (v := 1) B d_Book_expression_31 (by decide) ?_
    refine mv_iadd (pc := 32) B d_Book_expression_32 ?_
    refine mv_putI (pc := 33) (ci := 12) (C := R_Book) (T := F_Book) (N := 65) B 8 rfl rfl (by decide) i_Book t_Book_ok n_Book (B.2.2.2.1 _ k_1851) rfl rfl rfl rfl d_Book_expression_33 ?_
    refine mv_gen (fun S36 eS36 => ?_)
    have hS := hS.dep (hS.P.up (by omega))
    rw [← eS36] at hS
    clear eS36
    refine mv_aload_n (pc := 36) B d_Book_expression_36 rfl 2 rfl ?_
    refine mv_callVUi (pc := 37) (n := 0) (ci := 12) (C := R_Book) B (mK_ok sk sv) hNs rfl rfl (ihE (f - 1) (by omega) _ len th _ _ _ _ (by omega) hS.P) rfl (ma_goodc kc_Book_expression) (B.2.2.2.1 _ k_2245) (B.2.2.2.1 _ k_2247) (B.2.2.2.1 _ ks_104) (B.2.2.2.1 _ k_13) ⟨by decide +kernel, by decide +kernel, by decide +kernel⟩ rfl d_Book_expression_37 rfl (Nat.le_of_ble_eq_true rfl) ⟨by first | decide | (dsimp only; omega), by first | decide | (dsimp only; omega)⟩ ⟨Nat.le_refl _, Nat.le_refl _⟩ ⟨Nat.le_refl _, Nat.le_refl _⟩ (mv_noH hno _) (fun τ9 g9 => Or.inr ⟨rfl, hS.1.2.1.bf.tr g9⟩) (fun v37 σ37 h37 => ?_)
    obtain ⟨n37, t37, u37, s37, m37, r37, x37⟩ := h37
    have i37 := s37.2.2.2.1
    have hS := hS.sub s37 x37
    refine mv_istore_n (pc := 40) B d_Book_expression_40 rfl (by decide) rfl ?_
    refine mv_aload_n (pc := 41) B d_Book_expression_41 rfl 3 rfl ?_
    refine mv_bipush (pc := 42) (v := 58) B d_Book_expression_42 (by decide) ?_
    refine mv_callVUv (pc := 44) (n := 1) (ci := 12) (C := R_Book) B (mK_ok sk sv) hNs rfl rfl (c_Book_need_y l hi _ _ len _ _ hS.P.1) rfl (ma_goodc kc_Book_need) (B.2.2.2.1 _ k_2177) (B.2.2.2.1 _ k_2179) (B.2.2.2.1 _ ks_91) (B.2.2.2.1 _ k_13) ⟨by decide +kernel, by decide +kernel, by decide +kernel⟩ rfl d_Book_expression_44 rfl (Nat.le_of_ble_eq_true rfl) ⟨by first | decide | (dsimp only; omega), by first | decide | (dsimp only; omega)⟩ ⟨Nat.le_refl _, Nat.le_refl _⟩ ⟨Nat.le_refl _, Nat.le_refl _⟩ (mv_noH hno _) (fun τ9 g9 => Or.inr ⟨rfl, hS.1.2.1.bf.tr g9.bf⟩) (fun σ44 h44 => ?_)
    obtain ⟨k44, d44, t44, u44, q44, g44⟩ := h44
    have w44 := hS.P.w (by rw [k44]; decide)
    rw [hS.P.2.1] at d44
    have hL0 := hS.le
    have hS := hS.pass q44 g44
    refine mv_aload_n (pc := 47) B d_Book_expression_47 rfl 3 rfl ?_
    refine mv_callVUi (pc := 48) (n := 0) (ci := 12) (C := R_Book) B (mK_ok sk sv) hNs rfl rfl (ihE (f - 1) (by omega) _ len th _ _ _ _ (by omega) hS.P) rfl (ma_goodc kc_Book_expression) (B.2.2.2.1 _ k_2245) (B.2.2.2.1 _ k_2247) (B.2.2.2.1 _ ks_104) (B.2.2.2.1 _ k_13) ⟨by decide +kernel, by decide +kernel, by decide +kernel⟩ rfl d_Book_expression_48 rfl (Nat.le_of_ble_eq_true rfl) ⟨by first | decide | (dsimp only; omega), by first | decide | (dsimp only; omega)⟩ ⟨Nat.le_refl _, Nat.le_refl _⟩ ⟨Nat.le_refl _, Nat.le_refl _⟩ (mv_noH hno _) (fun τ9 g9 => Or.inr ⟨rfl, hS.1.2.1.bf.tr g9⟩) (fun v48 σ48 h48 => ?_)
    obtain ⟨n48, t48, u48, s48, m48, r48, x48⟩ := h48
    have i48 := s48.2.2.2.1
    have hS := hS.sub s48 x48
    refine mv_istore (pc := 51) B d_Book_expression_51 (by decide) rfl ?_
    refine mv_aload_n (pc := 53) B d_Book_expression_53 rfl 4 rfl ?_
    refine mv_dup (pc := 54) B d_Book_expression_54 rfl ?_
    refine mv_getI (pc := 55) (ci := 12) (C := R_Book) (T := F_Book) (N := 65) B 8 rfl rfl (by decide) i_Book (B.2.2.2.1 _ k_1851) rfl d_Book_expression_55 ?_
    refine mv_iconst (pc := 58) (v := 1) B d_Book_expression_58 (by decide) ?_
    refine mv_isub (pc := 59) B d_Book_expression_59 ?_
    refine mv_putI (pc := 60) (ci := 12) (C := R_Book) (T := F_Book) (N := 65) B 8 rfl rfl (by decide) i_Book t_Book_ok n_Book (B.2.2.2.1 _ k_1851) rfl rfl rfl rfl d_Book_expression_60 ?_
    refine mv_gen (fun S63 eS63 => ?_)
    have hS := hS.dep hS.P.dn
    rw [← eS63] at hS
    clear eS63
    have hL63 := hS.le
    refine mv_aload_n (pc := 63) B d_Book_expression_63 rfl 4 rfl ?_
    refine mv_iload_n (pc := 64) B d_Book_expression_64 rfl 2 rfl ?_
    refine mv_iload_n (pc := 65) B d_Book_expression_65 rfl 3 rfl ?_
    refine mv_iload_n (pc := 66) B d_Book_expression_66 rfl 1 rfl ?_
    refine mv_iload (pc := 67) B d_Book_expression_67 0 rfl ?_
    refine mv_callVi (pc := 69) (n := 4) (ci := 12) (C := R_Book) B (mK_ok sk sv) hNs rfl rfl (c_Book_chosen_y l hi _ _ _ _ _ (i32_in (by omega) (by omega)) (i32_in (by omega) (by omega)) (i32_in (by omega) (by omega)) hS.R (by omega) (by omega)) rfl (ma_goodc kc_Book_chosen) (B.2.2.2.1 _ k_2321) (B.2.2.2.1 _ k_2323) (B.2.2.2.1 _ ks_119) (B.2.2.2.1 _ k_13) ⟨by decide +kernel, by decide +kernel, by decide +kernel⟩ rfl d_Book_expression_69 rfl (Nat.le_of_ble_eq_true rfl) ⟨by first | decide | (dsimp only; omega), by first | decide | (dsimp only; omega)⟩ ⟨Nat.le_refl _, Nat.le_refl _⟩ ⟨Nat.le_refl _, Nat.le_refl _⟩ (mv_noH hno _) (fun v69 σ69 h69 => ?_)
    obtain ⟨e69, τ69, w69, hT69, z69⟩ := h69
    have hS := hS.ft hT69
    have hN := hS.nodeE z69 (lo := n) (R := 10 * f + 9) (by omega) hn0 (fun zz => XR.choose (hS.2.at 2 rfl zz) (hS.2.at 1 rfl zz) (hS.2.at 0 rfl zz) m2 m37 m48 hS.P.nn r2 r37 r48 (by omega) (by omega) (by omega))
    have hv69 : v69.toInt + 1 = ((n48 + 1 : Nat) : Int) := by rw [e69]; omega
    exact mv_iret (pc := 72) B hr rfl d_Book_expression_72 (Nat.le_refl _) (Nat.le_refl _) (Or.inl ⟨_, rfl, hN.out hv69 (by omega) 0 rfl (Nat.le_refl _)⟩)
  · skip
    refine mv_iload_n (pc := 15) B d_Book_expression_15 rfl 0 rfl ?_
    exact mv_iret (pc := 16) B hr rfl d_Book_expression_16 (Nat.le_refl _) (Nat.le_refl _) (Or.inl ⟨_, rfl, hS.out r2 m2 0 rfl (by omega)⟩)
theorem xs_x (l : Launch) {dA : FieldType → ClassId} {D : va_G} {al : Nat → Nat} {ext : mv_Sh} {sk sv : Nat → Nat} (hi : mv_inj (mg dA D al ext)) (f : Nat) (ihE : ∀ g, g + 1 = f → XE l dA D al ext sk sv 74 g) (ihU : ∀ g, g + 1 = f → XU l dA D al ext sk sv 74 g) : XE l dA D al ext sk sv 74 f ∧ XU l dA D al ext sk sv 74 f := by
  have hPr : XPr l dA D al ext sk sv 74 f := fun σ len th d n a1 a2 hf hP => c_Book_primary_x l hi σ f len th d n a1 a2 hf hP ihE
  have hPo : XPo l dA D al ext sk sv 74 f := fun σ len th d n a1 a2 hf hP => c_Book_post_x l hi σ f len th d n a1 a2 hf hP hPr
  have hU : XU l dA D al ext sk sv 74 f := fun σ len th d n a1 a2 hf hP => c_Book_unary_x l hi σ f len th d n a1 a2 hf hP ihU hPo
  have hB : ∀ k, k ≤ 8 → XB l dA D al ext sk sv 74 f k := by
    intro k
    induction k with
    | zero => exact fun hk v hv σ len th d n a1 a2 hf hP => c_Book_binary_x l hi σ f len th d n a1 a2 hf hP 0 v hv hk (fun j hj => absurd hj (Nat.succ_ne_zero _)) hU
    | succ k ih => exact fun hk v hv σ len th d n a1 a2 hf hP => c_Book_binary_x l hi σ f len th d n a1 a2 hf hP (k + 1) v hv hk (fun j hj => by
        have e : j = k := by omega
        subst e
        exact ih (by omega)) hU
  exact ⟨fun σ len th d n a1 a2 hf hP => c_Book_expression_x l hi σ f len th d n a1 a2 hf hP ihE (hB 8 (Nat.le_refl _)), hU⟩
theorem xe_x (l : Launch) {dA : FieldType → ClassId} {D : va_G} {al : Nat → Nat} {ext : mv_Sh} {sk sv : Nat → Nat} (hi : mv_inj (mg dA D al ext)) : ∀ f, XE l dA D al ext sk sv 74 f ∧ XU l dA D al ext sk sv 74 f := by
  intro f
  induction f with
  | zero => exact xs_x l hi 0 (fun g h => absurd h (Nat.succ_ne_zero _)) (fun g h => absurd h (Nat.succ_ne_zero _))
  | succ f ih => exact xs_x l hi (f + 1) (fun g h => by
      have e : g = f := by omega
      subst e
      exact ih.1) (fun g h => by
      have e : g = f := by omega
      subst e
      exact ih.2)
/-- an expression at any depth -/
theorem c_Book_expr_x (l : Launch) {dA : FieldType → ClassId} {D : va_G} {al : Nat → Nat} {ext : mv_Sh} {sk sv : Nat → Nat} (hi : mv_inj (mg dA D al ext)) (σ : mv_H) (f len th d n a1 a2 : Nat) (hf : d + f = 61) (hP : PS 74 len th d n a1 a2 σ) : mv_C l y_Book_expression (Cond.code y_Book_expression b_Book_expression 5 (some .int) :: ma) { frames := 14 * f + 23, cells := 0, slots := 0, locals := 500 * f + 840 } (mg dA D al ext) (mK sk sv) [.ref (al 74)] σ (mv_Ui (XO 74 len th d n a1 (10 * f + 9) σ) ("MachineLoomModel$Book$Wrong", al 107) (BF 74 σ)) := (xe_x l hi f).1 σ len th d n a1 a2 hf hP
theorem xs_y (l : Launch) {dA : FieldType → ClassId} {D : va_G} {al : Nat → Nat} {ext : mv_Sh} {sk sv : Nat → Nat} (hi : mv_inj (mg dA D al ext)) (f : Nat) (ihE : ∀ g, g + 1 = f → XE l dA D al ext sk sv 108 g) (ihU : ∀ g, g + 1 = f → XU l dA D al ext sk sv 108 g) : XE l dA D al ext sk sv 108 f ∧ XU l dA D al ext sk sv 108 f := by
  have hPr : XPr l dA D al ext sk sv 108 f := fun σ len th d n a1 a2 hf hP => c_Book_primary_y l hi σ f len th d n a1 a2 hf hP ihE
  have hPo : XPo l dA D al ext sk sv 108 f := fun σ len th d n a1 a2 hf hP => c_Book_post_y l hi σ f len th d n a1 a2 hf hP hPr
  have hU : XU l dA D al ext sk sv 108 f := fun σ len th d n a1 a2 hf hP => c_Book_unary_y l hi σ f len th d n a1 a2 hf hP ihU hPo
  have hB : ∀ k, k ≤ 8 → XB l dA D al ext sk sv 108 f k := by
    intro k
    induction k with
    | zero => exact fun hk v hv σ len th d n a1 a2 hf hP => c_Book_binary_y l hi σ f len th d n a1 a2 hf hP 0 v hv hk (fun j hj => absurd hj (Nat.succ_ne_zero _)) hU
    | succ k ih => exact fun hk v hv σ len th d n a1 a2 hf hP => c_Book_binary_y l hi σ f len th d n a1 a2 hf hP (k + 1) v hv hk (fun j hj => by
        have e : j = k := by omega
        subst e
        exact ih (by omega)) hU
  exact ⟨fun σ len th d n a1 a2 hf hP => c_Book_expression_y l hi σ f len th d n a1 a2 hf hP ihE (hB 8 (Nat.le_refl _)), hU⟩
theorem xe_y (l : Launch) {dA : FieldType → ClassId} {D : va_G} {al : Nat → Nat} {ext : mv_Sh} {sk sv : Nat → Nat} (hi : mv_inj (mg dA D al ext)) : ∀ f, XE l dA D al ext sk sv 108 f ∧ XU l dA D al ext sk sv 108 f := by
  intro f
  induction f with
  | zero => exact xs_y l hi 0 (fun g h => absurd h (Nat.succ_ne_zero _)) (fun g h => absurd h (Nat.succ_ne_zero _))
  | succ f ih => exact xs_y l hi (f + 1) (fun g h => by
      have e : g = f := by omega
      subst e
      exact ih.1) (fun g h => by
      have e : g = f := by omega
      subst e
      exact ih.2)
/-- an expression at any depth -/
theorem c_Book_expr_y (l : Launch) {dA : FieldType → ClassId} {D : va_G} {al : Nat → Nat} {ext : mv_Sh} {sk sv : Nat → Nat} (hi : mv_inj (mg dA D al ext)) (σ : mv_H) (f len th d n a1 a2 : Nat) (hf : d + f = 61) (hP : PS 108 len th d n a1 a2 σ) : mv_C l y_Book_expression (Cond.code y_Book_expression b_Book_expression 5 (some .int) :: ma) { frames := 14 * f + 23, cells := 0, slots := 0, locals := 500 * f + 840 } (mg dA D al ext) (mK sk sv) [.ref (al 108)] σ (mv_Ui (XO 108 len th d n a1 (10 * f + 9) σ) ("MachineLoomModel$Book$Wrong", al 141) (BF 108 σ)) := (xe_y l hi f).1 σ len th d n a1 a2 hf hP
