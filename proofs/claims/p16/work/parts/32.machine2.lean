/-! Machine: work -/
def y_Machine_work : MethodName := ⟨"MachineLoom$Machine", "work", "(IJ)V"⟩
abbrev b_Machine_work : ByteArray := prog_5_method_15_code
theorem kc_Machine_work : Cond.code y_Machine_work b_Machine_work 8 (Option.none : Option Jvm.ClassFile.FieldType) ∈ ma := ma_of (tb_7 _ (List.mem_of_getElem? (i := 168) rfl)) rfl
theorem k_444 : (Jvm.Cond.fieldLink "MachineLoom$Machine" (16 : Nat) "MachineLoom$Machine" "lets" "[J") ∈ ma := ma_of (tb_2 _ (List.mem_of_getElem? (i := 204) rfl)) rfl
theorem k_1609 : (Jvm.Cond.constantLong "MachineLoom$Machine" (177 : Nat) (-1 : Int64)) ∈ ma := ma_of (tb_7 _ (List.mem_of_getElem? (i := 169) rfl)) rfl
theorem k_1610 : (Jvm.Cond.constantLong "MachineLoom$Machine" (179 : Nat) (255 : Int64)) ∈ ma := ma_of (tb_7 _ (List.mem_of_getElem? (i := 170) rfl)) rfl
theorem k_1611 : (Jvm.Cond.methodLink "MachineLoom$Machine" (181 : Nat) ({ cls := "MachineLoom$Bits", name := "signed", desc := "(JI)J" } : Jvm.MethodName)) ∈ ma := ma_of (tb_7 _ (List.mem_of_getElem? (i := 171) rfl)) rfl
theorem k_450 : (Jvm.Cond.fieldLink "MachineLoom$Machine" (96 : Nat) "MachineLoom$Machine" "assigned" "Z") ∈ ma := ma_of (tb_2 _ (List.mem_of_getElem? (i := 210) rfl)) rfl
theorem k_338 : (Jvm.Cond.fieldLink "MachineLoom$Machine" (125 : Nat) "MachineLoom$Program" "fetchRegister" "I") ∈ ma := ma_of (tb_2 _ (List.mem_of_getElem? (i := 98) rfl)) rfl
theorem k_1614 : (Jvm.Cond.methodLink "MachineLoom$Machine" (185 : Nat) ({ cls := "MachineLoom$Bits", name := "ofTwo", desc := "(IJJI)J" } : Jvm.MethodName)) ∈ ma := ma_of (tb_7 _ (List.mem_of_getElem? (i := 174) rfl)) rfl
theorem k_1615 : (Jvm.Cond.static ({ cls := "MachineLoom$Bits", name := "ofTwo", desc := "(IJJI)J" } : Jvm.MethodName)) ∈ ma := ma_of (tb_7 _ (List.mem_of_getElem? (i := 175) rfl)) rfl
theorem d_Machine_work_0 : decode b_Machine_work 0 = .ok (.iload_n 1, 1) := by decide +kernel
theorem d_Machine_work_1 : decode b_Machine_work 1 = .ok (.tableswitch (278) (300) (314) #[75, 278, 83, 97, 278, 168, 182, 182, 199, 255, 226, 278, 278, 111, 125], 75) := by decide +kernel
theorem d_Machine_work_76 : decode b_Machine_work 76 = .ok (.aload_n 0, 1) := by decide +kernel
theorem d_Machine_work_77 : decode b_Machine_work 77 = .ok (.lload_n 2, 1) := by decide +kernel
theorem d_Machine_work_78 : decode b_Machine_work 78 = .ok (.invokevirtual 159, 3) := by decide +kernel
theorem d_Machine_work_81 : decode b_Machine_work 81 = .ok (.goto (220), 3) := by decide +kernel
theorem d_Machine_work_84 : decode b_Machine_work 84 = .ok (.aload_n 0, 1) := by decide +kernel
theorem d_Machine_work_85 : decode b_Machine_work 85 = .ok (.aload_n 0, 1) := by decide +kernel
theorem d_Machine_work_86 : decode b_Machine_work 86 = .ok (.getfield 16, 3) := by decide +kernel
theorem d_Machine_work_89 : decode b_Machine_work 89 = .ok (.lload_n 2, 1) := by decide +kernel
theorem d_Machine_work_90 : decode b_Machine_work 90 = .ok (.l2i, 1) := by decide +kernel
theorem d_Machine_work_91 : decode b_Machine_work 91 = .ok (.laload, 1) := by decide +kernel
theorem d_Machine_work_92 : decode b_Machine_work 92 = .ok (.invokevirtual 159, 3) := by decide +kernel
theorem d_Machine_work_95 : decode b_Machine_work 95 = .ok (.goto (206), 3) := by decide +kernel
theorem d_Machine_work_98 : decode b_Machine_work 98 = .ok (.aload_n 0, 1) := by decide +kernel
theorem d_Machine_work_99 : decode b_Machine_work 99 = .ok (.aload_n 0, 1) := by decide +kernel
theorem d_Machine_work_100 : decode b_Machine_work 100 = .ok (.getfield 10, 3) := by decide +kernel
theorem d_Machine_work_103 : decode b_Machine_work 103 = .ok (.lload_n 2, 1) := by decide +kernel
theorem d_Machine_work_104 : decode b_Machine_work 104 = .ok (.l2i, 1) := by decide +kernel
theorem d_Machine_work_105 : decode b_Machine_work 105 = .ok (.laload, 1) := by decide +kernel
theorem d_Machine_work_106 : decode b_Machine_work 106 = .ok (.invokevirtual 159, 3) := by decide +kernel
theorem d_Machine_work_109 : decode b_Machine_work 109 = .ok (.goto (192), 3) := by decide +kernel
theorem d_Machine_work_112 : decode b_Machine_work 112 = .ok (.aload_n 0, 1) := by decide +kernel
theorem d_Machine_work_113 : decode b_Machine_work 113 = .ok (.getfield 16, 3) := by decide +kernel
theorem d_Machine_work_116 : decode b_Machine_work 116 = .ok (.lload_n 2, 1) := by decide +kernel
theorem d_Machine_work_117 : decode b_Machine_work 117 = .ok (.l2i, 1) := by decide +kernel
theorem d_Machine_work_118 : decode b_Machine_work 118 = .ok (.aload_n 0, 1) := by decide +kernel
theorem d_Machine_work_119 : decode b_Machine_work 119 = .ok (.invokevirtual 170, 3) := by decide +kernel
theorem d_Machine_work_122 : decode b_Machine_work 122 = .ok (.lastore, 1) := by decide +kernel
theorem d_Machine_work_123 : decode b_Machine_work 123 = .ok (.goto (178), 3) := by decide +kernel
theorem d_Machine_work_126 : decode b_Machine_work 126 = .ok (.aload_n 0, 1) := by decide +kernel
theorem d_Machine_work_127 : decode b_Machine_work 127 = .ok (.aload_n 0, 1) := by decide +kernel
theorem d_Machine_work_128 : decode b_Machine_work 128 = .ok (.getfield 96, 3) := by decide +kernel
theorem d_Machine_work_131 : decode b_Machine_work 131 = .ok (.ifCond .ne (16), 3) := by decide +kernel
theorem d_Machine_work_134 : decode b_Machine_work 134 = .ok (.lload_n 2, 1) := by decide +kernel
theorem d_Machine_work_135 : decode b_Machine_work 135 = .ok (.aload_n 0, 1) := by decide +kernel
theorem d_Machine_work_136 : decode b_Machine_work 136 = .ok (.getfield 29, 3) := by decide +kernel
theorem d_Machine_work_139 : decode b_Machine_work 139 = .ok (.getfield 125, 3) := by decide +kernel
theorem d_Machine_work_142 : decode b_Machine_work 142 = .ok (.i2l, 1) := by decide +kernel
theorem d_Machine_work_143 : decode b_Machine_work 143 = .ok (.lcmp, 1) := by decide +kernel
theorem d_Machine_work_144 : decode b_Machine_work 144 = .ok (.ifCond .ne (7), 3) := by decide +kernel
theorem d_Machine_work_147 : decode b_Machine_work 147 = .ok (.iconst 1, 1) := by decide +kernel
theorem d_Machine_work_148 : decode b_Machine_work 148 = .ok (.goto (4), 3) := by decide +kernel
theorem d_Machine_work_151 : decode b_Machine_work 151 = .ok (.iconst 0, 1) := by decide +kernel
theorem d_Machine_work_152 : decode b_Machine_work 152 = .ok (.putfield 96, 3) := by decide +kernel
theorem d_Machine_work_155 : decode b_Machine_work 155 = .ok (.aload_n 0, 1) := by decide +kernel
theorem d_Machine_work_156 : decode b_Machine_work 156 = .ok (.lload_n 2, 1) := by decide +kernel
theorem d_Machine_work_157 : decode b_Machine_work 157 = .ok (.l2i, 1) := by decide +kernel
theorem d_Machine_work_158 : decode b_Machine_work 158 = .ok (.iconst 0, 1) := by decide +kernel
theorem d_Machine_work_159 : decode b_Machine_work 159 = .ok (.aload_n 0, 1) := by decide +kernel
theorem d_Machine_work_160 : decode b_Machine_work 160 = .ok (.invokevirtual 170, 3) := by decide +kernel
theorem d_Machine_work_163 : decode b_Machine_work 163 = .ok (.invokevirtual 174, 3) := by decide +kernel
theorem d_Machine_work_166 : decode b_Machine_work 166 = .ok (.goto (135), 3) := by decide +kernel
theorem d_Machine_work_169 : decode b_Machine_work 169 = .ok (.aload_n 0, 1) := by decide +kernel
theorem d_Machine_work_170 : decode b_Machine_work 170 = .ok (.aload_n 0, 1) := by decide +kernel
theorem d_Machine_work_171 : decode b_Machine_work 171 = .ok (.invokevirtual 170, 3) := by decide +kernel
theorem d_Machine_work_174 : decode b_Machine_work 174 = .ok (.lneg, 1) := by decide +kernel
theorem d_Machine_work_175 : decode b_Machine_work 175 = .ok (.lload_n 2, 1) := by decide +kernel
theorem d_Machine_work_176 : decode b_Machine_work 176 = .ok (.land, 1) := by decide +kernel
theorem d_Machine_work_177 : decode b_Machine_work 177 = .ok (.invokevirtual 159, 3) := by decide +kernel
theorem d_Machine_work_180 : decode b_Machine_work 180 = .ok (.goto (121), 3) := by decide +kernel
theorem d_Machine_work_183 : decode b_Machine_work 183 = .ok (.aload_n 0, 1) := by decide +kernel
theorem d_Machine_work_184 : decode b_Machine_work 184 = .ok (.aload_n 0, 1) := by decide +kernel
theorem d_Machine_work_185 : decode b_Machine_work 185 = .ok (.invokevirtual 170, 3) := by decide +kernel
theorem d_Machine_work_188 : decode b_Machine_work 188 = .ok (.ldc2_w 177, 3) := by decide +kernel
theorem d_Machine_work_191 : decode b_Machine_work 191 = .ok (.lxor, 1) := by decide +kernel
theorem d_Machine_work_192 : decode b_Machine_work 192 = .ok (.lload_n 2, 1) := by decide +kernel
theorem d_Machine_work_193 : decode b_Machine_work 193 = .ok (.land, 1) := by decide +kernel
theorem d_Machine_work_194 : decode b_Machine_work 194 = .ok (.invokevirtual 159, 3) := by decide +kernel
theorem d_Machine_work_197 : decode b_Machine_work 197 = .ok (.goto (104), 3) := by decide +kernel
theorem d_Machine_work_200 : decode b_Machine_work 200 = .ok (.aload_n 0, 1) := by decide +kernel
theorem d_Machine_work_201 : decode b_Machine_work 201 = .ok (.aload_n 0, 1) := by decide +kernel
theorem d_Machine_work_202 : decode b_Machine_work 202 = .ok (.invokevirtual 170, 3) := by decide +kernel
theorem d_Machine_work_205 : decode b_Machine_work 205 = .ok (.lload_n 2, 1) := by decide +kernel
theorem d_Machine_work_206 : decode b_Machine_work 206 = .ok (.ldc2_w 179, 3) := by decide +kernel
theorem d_Machine_work_209 : decode b_Machine_work 209 = .ok (.land, 1) := by decide +kernel
theorem d_Machine_work_210 : decode b_Machine_work 210 = .ok (.l2i, 1) := by decide +kernel
theorem d_Machine_work_211 : decode b_Machine_work 211 = .ok (.lushr, 1) := by decide +kernel
theorem d_Machine_work_212 : decode b_Machine_work 212 = .ok (.lload_n 2, 1) := by decide +kernel
theorem d_Machine_work_213 : decode b_Machine_work 213 = .ok (.bipush 8, 2) := by decide +kernel
theorem d_Machine_work_215 : decode b_Machine_work 215 = .ok (.lshr, 1) := by decide +kernel
theorem d_Machine_work_216 : decode b_Machine_work 216 = .ok (.l2i, 1) := by decide +kernel
theorem d_Machine_work_217 : decode b_Machine_work 217 = .ok (.invokestatic 61, 3) := by decide +kernel
theorem d_Machine_work_220 : decode b_Machine_work 220 = .ok (.land, 1) := by decide +kernel
theorem d_Machine_work_221 : decode b_Machine_work 221 = .ok (.invokevirtual 159, 3) := by decide +kernel
theorem d_Machine_work_224 : decode b_Machine_work 224 = .ok (.goto (77), 3) := by decide +kernel
theorem d_Machine_work_227 : decode b_Machine_work 227 = .ok (.aload_n 0, 1) := by decide +kernel
theorem d_Machine_work_228 : decode b_Machine_work 228 = .ok (.aload_n 0, 1) := by decide +kernel
theorem d_Machine_work_229 : decode b_Machine_work 229 = .ok (.invokevirtual 170, 3) := by decide +kernel
theorem d_Machine_work_232 : decode b_Machine_work 232 = .ok (.lload_n 2, 1) := by decide +kernel
theorem d_Machine_work_233 : decode b_Machine_work 233 = .ok (.ldc2_w 179, 3) := by decide +kernel
theorem d_Machine_work_236 : decode b_Machine_work 236 = .ok (.land, 1) := by decide +kernel
theorem d_Machine_work_237 : decode b_Machine_work 237 = .ok (.l2i, 1) := by decide +kernel
theorem d_Machine_work_238 : decode b_Machine_work 238 = .ok (.invokestatic 181, 3) := by decide +kernel
theorem d_Machine_work_241 : decode b_Machine_work 241 = .ok (.lload_n 2, 1) := by decide +kernel
theorem d_Machine_work_242 : decode b_Machine_work 242 = .ok (.bipush 8, 2) := by decide +kernel
theorem d_Machine_work_244 : decode b_Machine_work 244 = .ok (.lshr, 1) := by decide +kernel
theorem d_Machine_work_245 : decode b_Machine_work 245 = .ok (.l2i, 1) := by decide +kernel
theorem d_Machine_work_246 : decode b_Machine_work 246 = .ok (.invokestatic 61, 3) := by decide +kernel
theorem d_Machine_work_249 : decode b_Machine_work 249 = .ok (.land, 1) := by decide +kernel
theorem d_Machine_work_250 : decode b_Machine_work 250 = .ok (.invokevirtual 159, 3) := by decide +kernel
theorem d_Machine_work_253 : decode b_Machine_work 253 = .ok (.goto (48), 3) := by decide +kernel
theorem d_Machine_work_256 : decode b_Machine_work 256 = .ok (.aload_n 0, 1) := by decide +kernel
theorem d_Machine_work_257 : decode b_Machine_work 257 = .ok (.invokevirtual 170, 3) := by decide +kernel
theorem d_Machine_work_260 : decode b_Machine_work 260 = .ok (.lstore 4, 2) := by decide +kernel
theorem d_Machine_work_262 : decode b_Machine_work 262 = .ok (.aload_n 0, 1) := by decide +kernel
theorem d_Machine_work_263 : decode b_Machine_work 263 = .ok (.aload_n 0, 1) := by decide +kernel
theorem d_Machine_work_264 : decode b_Machine_work 264 = .ok (.invokevirtual 170, 3) := by decide +kernel
theorem d_Machine_work_267 : decode b_Machine_work 267 = .ok (.lload_n 2, 1) := by decide +kernel
theorem d_Machine_work_268 : decode b_Machine_work 268 = .ok (.l2i, 1) := by decide +kernel
theorem d_Machine_work_269 : decode b_Machine_work 269 = .ok (.lshl, 1) := by decide +kernel
theorem d_Machine_work_270 : decode b_Machine_work 270 = .ok (.lload 4, 2) := by decide +kernel
theorem d_Machine_work_272 : decode b_Machine_work 272 = .ok (.lor, 1) := by decide +kernel
theorem d_Machine_work_273 : decode b_Machine_work 273 = .ok (.invokevirtual 159, 3) := by decide +kernel
theorem d_Machine_work_276 : decode b_Machine_work 276 = .ok (.goto (25), 3) := by decide +kernel
theorem d_Machine_work_279 : decode b_Machine_work 279 = .ok (.aload_n 0, 1) := by decide +kernel
theorem d_Machine_work_280 : decode b_Machine_work 280 = .ok (.invokevirtual 170, 3) := by decide +kernel
theorem d_Machine_work_283 : decode b_Machine_work 283 = .ok (.lstore 6, 2) := by decide +kernel
theorem d_Machine_work_285 : decode b_Machine_work 285 = .ok (.aload_n 0, 1) := by decide +kernel
theorem d_Machine_work_286 : decode b_Machine_work 286 = .ok (.iload_n 1, 1) := by decide +kernel
theorem d_Machine_work_287 : decode b_Machine_work 287 = .ok (.aload_n 0, 1) := by decide +kernel
theorem d_Machine_work_288 : decode b_Machine_work 288 = .ok (.invokevirtual 170, 3) := by decide +kernel
theorem d_Machine_work_291 : decode b_Machine_work 291 = .ok (.lload 6, 2) := by decide +kernel
theorem d_Machine_work_293 : decode b_Machine_work 293 = .ok (.lload_n 2, 1) := by decide +kernel
theorem d_Machine_work_294 : decode b_Machine_work 294 = .ok (.l2i, 1) := by decide +kernel
theorem d_Machine_work_295 : decode b_Machine_work 295 = .ok (.invokestatic 185, 3) := by decide +kernel
theorem d_Machine_work_298 : decode b_Machine_work 298 = .ok (.invokevirtual 159, 3) := by decide +kernel
theorem d_Machine_work_301 : decode b_Machine_work 301 = .ok (.return_, 1) := by decide +kernel
set_option maxHeartbeats 4000000 in
set_option maxRecDepth 100000 in
theorem c_Machine_work_a (l : Launch) {dA : FieldType → ClassId} {D : va_G} {al : Nat → Nat} {ext : mv_Sh} {sk sv : Nat → Nat} (hi : mv_inj (mg dA D al ext)) (σ : mv_H) (d : Int32) (w : Int64) (hR : Rf 32 (mv_r σ)) (th sl : Nat) (hT : Th 32 σ th sl) (h9 h8 : Nat) (hh : (mv_i σ 64 4).toInt = h9) (hh1 : h9 ≤ 1024) (hh2 : h8 ≤ 1024) (hO : Op1 th d w h9 h8) (hx : ¬ d = 301 ∧ ¬ d = 304 ∧ ¬ d = 311 ∧ ¬ d = 312) (hx5 : ¬ d = 315) (u : Nat) (hU : Un σ u) (hu : d = 314 → u < 8193) : mv_C l y_Machine_work (Cond.code y_Machine_work b_Machine_work 8 (Option.none : Option Jvm.ClassFile.FieldType) :: ma) ({ frames := 3, cells := 0, slots := 0, locals := 74 }) (mg dA D al ext) (mK sk sv) [.ref (al 64), .int d, .long w] σ (mv_Rv (fun σ1 => MF σ σ1 ∧ ((d = 314 ∧ Un σ1 (u + 1) ∧ (mv_i σ1 64 4).toInt = h8) ∨ (Un σ1 u ∧ (mv_i σ1 64 4).toInt = h8)))) := by
  refine mv_C.ofV (cc := b_Machine_work) (nL := 8) (ret := (Option.none : Option Jvm.ClassFile.FieldType)) (by decide +kernel) rfl hi (Nat.le_of_ble_eq_true rfl) ?_
  intro p e s m below meth c B hNs hr hnm hno
  refine mv_iload_n (pc := 0) B d_Machine_work_0 rfl 1 rfl ?_
  refine mv_tsw (pc := 1) B d_Machine_work_1 (by decide) (by decide) ?_
  refine ⟨fun h1 => ?_, fun h1n300 => ?_⟩
  · skip
    have h1 : d = 300 := Int32.toInt_inj.mp (show d.toInt = (300 : Int32).toInt from h1)
    subst h1
    have o1 : 0 ≤ h9 := hO.1
    have o2 : h8 + 0 = h9 + 1 := hO.2.1
    refine mv_aload_n (pc := 76) B d_Machine_work_76 rfl 0 rfl ?_
    refine mv_lload_n (pc := 77) B d_Machine_work_77 rfl 2 rfl ?_
    refine mv_callVv (pc := 78) (n := 1) (ci := 9) (C := R_Machine) B (mK_ok sk sv) hNs rfl rfl (c_Machine_push_a l hi _ _ hR (by omega) (by omega)) rfl (ma_goodc kc_Machine_push) (B.2.2.2.1 _ k_1584) (B.2.2.2.1 _ k_1586) (B.2.2.2.1 _ ks_70) (B.2.2.2.1 _ k_11) ⟨by decide +kernel, by decide +kernel, by decide +kernel⟩ rfl d_Machine_work_78 rfl (Nat.le_of_ble_eq_true rfl) ⟨by decide, by decide⟩ ⟨by decide, by decide⟩ ⟨by decide, by decide⟩ (mv_noH hno _) (fun σ78 h78 => ?_)
    subst h78
    refine mv_goto (pc := 81) (tgt := 301) B d_Machine_work_81 rfl ?_
    exact mv_vret (pc := 301) B hr d_Machine_work_301 (Nat.le_refl _) (Nat.le_refl _) ⟨rfl, ((MF0.sb (Or.inr (Or.inr (Or.inl rfl)))).si ⟨rfl, Or.inl rfl⟩), Or.inr ⟨hU, by show (mv_i σ 64 4 + 1).toInt = h8; rw [i32_inc (by omega)]; omega⟩⟩
  refine ⟨fun h1 => ?_, fun h1n301 => ?_⟩
  · skip
    exact absurd (Int32.toInt_inj.mp (show d.toInt = (301 : Int32).toInt from h1)) hx.1
  refine ⟨fun h1 => ?_, fun h1n302 => ?_⟩
  · skip
    have h1 : d = 302 := Int32.toInt_inj.mp (show d.toInt = (302 : Int32).toInt from h1)
    subst h1
    have o1 : 0 ≤ h9 := hO.1
    have o2 : h8 + 0 = h9 + 1 := hO.2.1
    have o3 := hO.2.2.1 (by decide)
    have o4 := l2i_nn o3.1 (by omega)
    refine mv_aload_n (pc := 84) B d_Machine_work_84 rfl 0 rfl ?_
    refine mv_aload_n (pc := 85) B d_Machine_work_85 rfl 0 rfl ?_
    refine mv_getR (pc := 86) (ci := 9) (C := R_Machine) (T := F_Machine) (N := 13) B 2 rfl rfl (by decide) i_Machine (B.2.2.2.1 _ k_444) rfl (hR.1 _ 2 _ rfl) d_Machine_work_86 ?_
    refine mv_lload_n (pc := 89) B d_Machine_work_89 rfl 2 rfl ?_
    refine mv_l2i (pc := 90) B d_Machine_work_90 ?_
    refine mv_lald (pc := 91) B rfl (i32_in (by omega) (by omega)) d_Machine_work_91 ?_
    refine mv_callVv (pc := 92) (n := 1) (ci := 9) (C := R_Machine) B (mK_ok sk sv) hNs rfl rfl (c_Machine_push_a l hi _ _ hR (by omega) (by omega)) rfl (ma_goodc kc_Machine_push) (B.2.2.2.1 _ k_1584) (B.2.2.2.1 _ k_1586) (B.2.2.2.1 _ ks_70) (B.2.2.2.1 _ k_11) ⟨by decide +kernel, by decide +kernel, by decide +kernel⟩ rfl d_Machine_work_92 rfl (Nat.le_of_ble_eq_true rfl) ⟨by decide, by decide⟩ ⟨by decide, by decide⟩ ⟨by decide, by decide⟩ (mv_noH hno _) (fun σ92 h92 => ?_)
    subst h92
    refine mv_goto (pc := 95) (tgt := 301) B d_Machine_work_95 rfl ?_
    exact mv_vret (pc := 301) B hr d_Machine_work_301 (Nat.le_refl _) (Nat.le_refl _) ⟨rfl, ((MF0.sb (Or.inr (Or.inr (Or.inl rfl)))).si ⟨rfl, Or.inl rfl⟩), Or.inr ⟨hU, by show (mv_i σ 64 4 + 1).toInt = h8; rw [i32_inc (by omega)]; omega⟩⟩
  refine ⟨fun h1 => ?_, fun h1n303 => ?_⟩
  · skip
    have h1 : d = 303 := Int32.toInt_inj.mp (show d.toInt = (303 : Int32).toInt from h1)
    subst h1
    have o1 : 0 ≤ h9 := hO.1
    have o2 : h8 + 0 = h9 + 1 := hO.2.1
    have o3 := hO.2.2.2.1 rfl
    have o4 := l2i_nn o3.1 (by omega)
    refine mv_aload_n (pc := 98) B d_Machine_work_98 rfl 0 rfl ?_
    refine mv_aload_n (pc := 99) B d_Machine_work_99 rfl 0 rfl ?_
    refine mv_getR (pc := 100) (ci := 9) (C := R_Machine) (T := F_Machine) (N := 13) B 1 rfl rfl (by decide) i_Machine (B.2.2.2.1 _ k_442) rfl (hR.1 _ 1 _ rfl) d_Machine_work_100 ?_
    refine mv_lload_n (pc := 103) B d_Machine_work_103 rfl 2 rfl ?_
    refine mv_l2i (pc := 104) B d_Machine_work_104 ?_
    refine mv_lald (pc := 105) B rfl (i32_in (by omega) (by omega)) d_Machine_work_105 ?_
    refine mv_callVv (pc := 106) (n := 1) (ci := 9) (C := R_Machine) B (mK_ok sk sv) hNs rfl rfl (c_Machine_push_a l hi _ _ hR (by omega) (by omega)) rfl (ma_goodc kc_Machine_push) (B.2.2.2.1 _ k_1584) (B.2.2.2.1 _ k_1586) (B.2.2.2.1 _ ks_70) (B.2.2.2.1 _ k_11) ⟨by decide +kernel, by decide +kernel, by decide +kernel⟩ rfl d_Machine_work_106 rfl (Nat.le_of_ble_eq_true rfl) ⟨by decide, by decide⟩ ⟨by decide, by decide⟩ ⟨by decide, by decide⟩ (mv_noH hno _) (fun σ106 h106 => ?_)
    subst h106
    refine mv_goto (pc := 109) (tgt := 301) B d_Machine_work_109 rfl ?_
    exact mv_vret (pc := 301) B hr d_Machine_work_301 (Nat.le_refl _) (Nat.le_refl _) ⟨rfl, ((MF0.sb (Or.inr (Or.inr (Or.inl rfl)))).si ⟨rfl, Or.inl rfl⟩), Or.inr ⟨hU, by show (mv_i σ 64 4 + 1).toInt = h8; rw [i32_inc (by omega)]; omega⟩⟩
  refine ⟨fun h1 => ?_, fun h1n304 => ?_⟩
  · skip
    exact absurd (Int32.toInt_inj.mp (show d.toInt = (304 : Int32).toInt from h1)) hx.2.1
  refine ⟨fun h1 => ?_, fun h1n305 => ?_⟩
  · skip
    have h1 : d = 305 := Int32.toInt_inj.mp (show d.toInt = (305 : Int32).toInt from h1)
    subst h1
    have o1 : 1 ≤ h9 := hO.1
    have o2 : h8 + 1 = h9 + 1 := hO.2.1
    have p1 := sub_one (x := mv_i σ 64 4) (by omega)
    refine mv_aload_n (pc := 169) B d_Machine_work_169 rfl 0 rfl ?_
    refine mv_aload_n (pc := 170) B d_Machine_work_170 rfl 0 rfl ?_
    refine mv_callVl (pc := 171) (n := 0) (ci := 9) (C := R_Machine) B (mK_ok sk sv) hNs rfl rfl (c_Machine_pop_a l hi _ hR (show 1 ≤ (mv_i σ 64 4).toInt by omega) (show (mv_i σ 64 4).toInt ≤ 1024 by omega)) rfl (ma_goodc kc_Machine_pop) (B.2.2.2.1 _ k_1592) (B.2.2.2.1 _ k_1594) (B.2.2.2.1 _ ks_72) (B.2.2.2.1 _ k_11) ⟨by decide +kernel, by decide +kernel, by decide +kernel⟩ rfl d_Machine_work_171 rfl (Nat.le_of_ble_eq_true rfl) ⟨by decide, by decide⟩ ⟨by decide, by decide⟩ ⟨by decide, by decide⟩ (mv_noH hno _) (fun v171 σ171 h171 => ?_)
    subst h171
    refine mv_lneg (pc := 174) B d_Machine_work_174 ?_
    refine mv_lload_n (pc := 175) B d_Machine_work_175 rfl 2 rfl ?_
    refine mv_land (pc := 176) B d_Machine_work_176 ?_
    refine mv_callVv (pc := 177) (n := 1) (ci := 9) (C := R_Machine) B (mK_ok sk sv) hNs rfl rfl (c_Machine_push_a l hi _ _ hR (show 0 ≤ (mv_i σ 64 4 - 1).toInt by omega) (show (mv_i σ 64 4 - 1).toInt < 1024 by omega)) rfl (ma_goodc kc_Machine_push) (B.2.2.2.1 _ k_1584) (B.2.2.2.1 _ k_1586) (B.2.2.2.1 _ ks_70) (B.2.2.2.1 _ k_11) ⟨by decide +kernel, by decide +kernel, by decide +kernel⟩ rfl d_Machine_work_177 rfl (Nat.le_of_ble_eq_true rfl) ⟨by decide, by decide⟩ ⟨by decide, by decide⟩ ⟨by decide, by decide⟩ (mv_noH hno _) (fun σ177 h177 => ?_)
    subst h177
    refine mv_goto (pc := 180) (tgt := 301) B d_Machine_work_180 rfl ?_
    exact mv_vret (pc := 301) B hr d_Machine_work_301 (Nat.le_refl _) (Nat.le_refl _) ⟨rfl, (((MF0.si ⟨rfl, Or.inl rfl⟩).sb (Or.inr (Or.inr (Or.inl rfl)))).si ⟨rfl, Or.inl rfl⟩), Or.inr ⟨hU, by show (mv_i σ 64 4 - 1 + 1).toInt = h8; rw [i32_inc (by omega)]; omega⟩⟩
  refine ⟨fun h1 => ?_, fun h1n306 => ?_⟩
  · skip
    have h1 : d = 306 := Int32.toInt_inj.mp (show d.toInt = (306 : Int32).toInt from h1)
    subst h1
    have o1 : 1 ≤ h9 := hO.1
    have o2 : h8 + 1 = h9 + 1 := hO.2.1
    have p1 := sub_one (x := mv_i σ 64 4) (by omega)
    refine mv_aload_n (pc := 183) B d_Machine_work_183 rfl 0 rfl ?_
    refine mv_aload_n (pc := 184) B d_Machine_work_184 rfl 0 rfl ?_
    refine mv_callVl (pc := 185) (n := 0) (ci := 9) (C := R_Machine) B (mK_ok sk sv) hNs rfl rfl (c_Machine_pop_a l hi _ hR (show 1 ≤ (mv_i σ 64 4).toInt by omega) (show (mv_i σ 64 4).toInt ≤ 1024 by omega)) rfl (ma_goodc kc_Machine_pop) (B.2.2.2.1 _ k_1592) (B.2.2.2.1 _ k_1594) (B.2.2.2.1 _ ks_72) (B.2.2.2.1 _ k_11) ⟨by decide +kernel, by decide +kernel, by decide +kernel⟩ rfl d_Machine_work_185 rfl (Nat.le_of_ble_eq_true rfl) ⟨by decide, by decide⟩ ⟨by decide, by decide⟩ ⟨by decide, by decide⟩ (mv_noH hno _) (fun v185 σ185 h185 => ?_)
    subst h185
    refine mv_ldc2 (pc := 188) (v := -1) B (B.2.2.2.1 _ k_1609) d_Machine_work_188 ?_
    refine mv_lxor (pc := 191) B d_Machine_work_191 ?_
    refine mv_lload_n (pc := 192) B d_Machine_work_192 rfl 2 rfl ?_
    refine mv_land (pc := 193) B d_Machine_work_193 ?_
    refine mv_callVv (pc := 194) (n := 1) (ci := 9) (C := R_Machine) B (mK_ok sk sv) hNs rfl rfl (c_Machine_push_a l hi _ _ hR (show 0 ≤ (mv_i σ 64 4 - 1).toInt by omega) (show (mv_i σ 64 4 - 1).toInt < 1024 by omega)) rfl (ma_goodc kc_Machine_push) (B.2.2.2.1 _ k_1584) (B.2.2.2.1 _ k_1586) (B.2.2.2.1 _ ks_70) (B.2.2.2.1 _ k_11) ⟨by decide +kernel, by decide +kernel, by decide +kernel⟩ rfl d_Machine_work_194 rfl (Nat.le_of_ble_eq_true rfl) ⟨by decide, by decide⟩ ⟨by decide, by decide⟩ ⟨by decide, by decide⟩ (mv_noH hno _) (fun σ194 h194 => ?_)
    subst h194
    refine mv_goto (pc := 197) (tgt := 301) B d_Machine_work_197 rfl ?_
    exact mv_vret (pc := 301) B hr d_Machine_work_301 (Nat.le_refl _) (Nat.le_refl _) ⟨rfl, (((MF0.si ⟨rfl, Or.inl rfl⟩).sb (Or.inr (Or.inr (Or.inl rfl)))).si ⟨rfl, Or.inl rfl⟩), Or.inr ⟨hU, by show (mv_i σ 64 4 - 1 + 1).toInt = h8; rw [i32_inc (by omega)]; omega⟩⟩
  refine ⟨fun h1 => ?_, fun h1n307 => ?_⟩
  · skip
    have h1 : d = 307 := Int32.toInt_inj.mp (show d.toInt = (307 : Int32).toInt from h1)
    subst h1
    have o1 : 1 ≤ h9 := hO.1
    have o2 : h8 + 1 = h9 + 1 := hO.2.1
    have p1 := sub_one (x := mv_i σ 64 4) (by omega)
    refine mv_aload_n (pc := 183) B d_Machine_work_183 rfl 0 rfl ?_
    refine mv_aload_n (pc := 184) B d_Machine_work_184 rfl 0 rfl ?_
    refine mv_callVl (pc := 185) (n := 0) (ci := 9) (C := R_Machine) B (mK_ok sk sv) hNs rfl rfl (c_Machine_pop_a l hi _ hR (show 1 ≤ (mv_i σ 64 4).toInt by omega) (show (mv_i σ 64 4).toInt ≤ 1024 by omega)) rfl (ma_goodc kc_Machine_pop) (B.2.2.2.1 _ k_1592) (B.2.2.2.1 _ k_1594) (B.2.2.2.1 _ ks_72) (B.2.2.2.1 _ k_11) ⟨by decide +kernel, by decide +kernel, by decide +kernel⟩ rfl d_Machine_work_185 rfl (Nat.le_of_ble_eq_true rfl) ⟨by decide, by decide⟩ ⟨by decide, by decide⟩ ⟨by decide, by decide⟩ (mv_noH hno _) (fun v185 σ185 h185 => ?_)
    subst h185
    refine mv_ldc2 (pc := 188) (v := -1) B (B.2.2.2.1 _ k_1609) d_Machine_work_188 ?_
    refine mv_lxor (pc := 191) B d_Machine_work_191 ?_
    refine mv_lload_n (pc := 192) B d_Machine_work_192 rfl 2 rfl ?_
    refine mv_land (pc := 193) B d_Machine_work_193 ?_
    refine mv_callVv (pc := 194) (n := 1) (ci := 9) (C := R_Machine) B (mK_ok sk sv) hNs rfl rfl (c_Machine_push_a l hi _ _ hR (show 0 ≤ (mv_i σ 64 4 - 1).toInt by omega) (show (mv_i σ 64 4 - 1).toInt < 1024 by omega)) rfl (ma_goodc kc_Machine_push) (B.2.2.2.1 _ k_1584) (B.2.2.2.1 _ k_1586) (B.2.2.2.1 _ ks_70) (B.2.2.2.1 _ k_11) ⟨by decide +kernel, by decide +kernel, by decide +kernel⟩ rfl d_Machine_work_194 rfl (Nat.le_of_ble_eq_true rfl) ⟨by decide, by decide⟩ ⟨by decide, by decide⟩ ⟨by decide, by decide⟩ (mv_noH hno _) (fun σ194 h194 => ?_)
    subst h194
    refine mv_goto (pc := 197) (tgt := 301) B d_Machine_work_197 rfl ?_
    exact mv_vret (pc := 301) B hr d_Machine_work_301 (Nat.le_refl _) (Nat.le_refl _) ⟨rfl, (((MF0.si ⟨rfl, Or.inl rfl⟩).sb (Or.inr (Or.inr (Or.inl rfl)))).si ⟨rfl, Or.inl rfl⟩), Or.inr ⟨hU, by show (mv_i σ 64 4 - 1 + 1).toInt = h8; rw [i32_inc (by omega)]; omega⟩⟩
  refine ⟨fun h1 => ?_, fun h1n308 => ?_⟩
  · skip
    have h1 : d = 308 := Int32.toInt_inj.mp (show d.toInt = (308 : Int32).toInt from h1)
    subst h1
    have o1 : 1 ≤ h9 := hO.1
    have o2 : h8 + 1 = h9 + 1 := hO.2.1
    have p1 := sub_one (x := mv_i σ 64 4) (by omega)
    refine mv_aload_n (pc := 200) B d_Machine_work_200 rfl 0 rfl ?_
    refine mv_aload_n (pc := 201) B d_Machine_work_201 rfl 0 rfl ?_
    refine mv_callVl (pc := 202) (n := 0) (ci := 9) (C := R_Machine) B (mK_ok sk sv) hNs rfl rfl (c_Machine_pop_a l hi _ hR (show 1 ≤ (mv_i σ 64 4).toInt by omega) (show (mv_i σ 64 4).toInt ≤ 1024 by omega)) rfl (ma_goodc kc_Machine_pop) (B.2.2.2.1 _ k_1592) (B.2.2.2.1 _ k_1594) (B.2.2.2.1 _ ks_72) (B.2.2.2.1 _ k_11) ⟨by decide +kernel, by decide +kernel, by decide +kernel⟩ rfl d_Machine_work_202 rfl (Nat.le_of_ble_eq_true rfl) ⟨by decide, by decide⟩ ⟨by decide, by decide⟩ ⟨by decide, by decide⟩ (mv_noH hno _) (fun v202 σ202 h202 => ?_)
    subst h202
    refine mv_lload_n (pc := 205) B d_Machine_work_205 rfl 2 rfl ?_
    refine mv_ldc2 (pc := 206) (v := 255) B (B.2.2.2.1 _ k_1610) d_Machine_work_206 ?_
    refine mv_land (pc := 209) B d_Machine_work_209 ?_
    refine mv_l2i (pc := 210) B d_Machine_work_210 ?_
    refine mv_lushr (pc := 211) B d_Machine_work_211 ?_
    refine mv_lload_n (pc := 212) B d_Machine_work_212 rfl 2 rfl ?_
    refine mv_bipush (pc := 213) (v := 8) B d_Machine_work_213 (by decide) ?_
    refine mv_lshr (pc := 215) B d_Machine_work_215 ?_
    refine mv_l2i (pc := 216) B d_Machine_work_216 ?_
    refine mv_callSl (pc := 217) (n := 1) B (mK_ok sk sv) hNs (c_Bits_mask l hi _ _) rfl (ma_goodc kc_Bits_mask) (B.2.2.2.1 _ k_1604) (B.2.2.2.1 _ k_1437) (B.2.2.2.1 _ k_33) ⟨by decide +kernel, by decide +kernel, by decide +kernel⟩ rfl d_Machine_work_217 rfl (Nat.le_of_ble_eq_true rfl) ⟨by decide, by decide⟩ ⟨by decide, by decide⟩ ⟨by decide, by decide⟩ (mv_noH hno _) (fun v217 σ217 h217 => ?_)
    subst h217
    refine mv_land (pc := 220) B d_Machine_work_220 ?_
    refine mv_callVv (pc := 221) (n := 1) (ci := 9) (C := R_Machine) B (mK_ok sk sv) hNs rfl rfl (c_Machine_push_a l hi _ _ hR (show 0 ≤ (mv_i σ 64 4 - 1).toInt by omega) (show (mv_i σ 64 4 - 1).toInt < 1024 by omega)) rfl (ma_goodc kc_Machine_push) (B.2.2.2.1 _ k_1584) (B.2.2.2.1 _ k_1586) (B.2.2.2.1 _ ks_70) (B.2.2.2.1 _ k_11) ⟨by decide +kernel, by decide +kernel, by decide +kernel⟩ rfl d_Machine_work_221 rfl (Nat.le_of_ble_eq_true rfl) ⟨by decide, by decide⟩ ⟨by decide, by decide⟩ ⟨by decide, by decide⟩ (mv_noH hno _) (fun σ221 h221 => ?_)
    subst h221
    refine mv_goto (pc := 224) (tgt := 301) B d_Machine_work_224 rfl ?_
    exact mv_vret (pc := 301) B hr d_Machine_work_301 (Nat.le_refl _) (Nat.le_refl _) ⟨rfl, (((MF0.si ⟨rfl, Or.inl rfl⟩).sb (Or.inr (Or.inr (Or.inl rfl)))).si ⟨rfl, Or.inl rfl⟩), Or.inr ⟨hU, by show (mv_i σ 64 4 - 1 + 1).toInt = h8; rw [i32_inc (by omega)]; omega⟩⟩
  refine ⟨fun h1 => ?_, fun h1n309 => ?_⟩
  · skip
    have h1 : d = 309 := Int32.toInt_inj.mp (show d.toInt = (309 : Int32).toInt from h1)
    subst h1
    have o1 : 2 ≤ h9 := hO.1
    have o2 : h8 + 2 = h9 + 1 := hO.2.1
    have p1 := sub_one (x := mv_i σ 64 4) (by omega)
    have p2 := sub_one (x := mv_i σ 64 4 - 1) (by omega)
    refine mv_aload_n (pc := 256) B d_Machine_work_256 rfl 0 rfl ?_
    refine mv_callVl (pc := 257) (n := 0) (ci := 9) (C := R_Machine) B (mK_ok sk sv) hNs rfl rfl (c_Machine_pop_a l hi _ hR (show 1 ≤ (mv_i σ 64 4).toInt by omega) (show (mv_i σ 64 4).toInt ≤ 1024 by omega)) rfl (ma_goodc kc_Machine_pop) (B.2.2.2.1 _ k_1592) (B.2.2.2.1 _ k_1594) (B.2.2.2.1 _ ks_72) (B.2.2.2.1 _ k_11) ⟨by decide +kernel, by decide +kernel, by decide +kernel⟩ rfl d_Machine_work_257 rfl (Nat.le_of_ble_eq_true rfl) ⟨by decide, by decide⟩ ⟨by decide, by decide⟩ ⟨by decide, by decide⟩ (mv_noH hno _) (fun v257 σ257 h257 => ?_)
    subst h257
    refine mv_lstore (pc := 260) B d_Machine_work_260 (by decide) rfl ?_
    refine mv_aload_n (pc := 262) B d_Machine_work_262 rfl 1 rfl ?_
    refine mv_aload_n (pc := 263) B d_Machine_work_263 rfl 1 rfl ?_
    refine mv_callVl (pc := 264) (n := 0) (ci := 9) (C := R_Machine) B (mK_ok sk sv) hNs rfl rfl (c_Machine_pop_a l hi _ hR (show 1 ≤ (mv_i σ 64 4 - 1).toInt by omega) (show (mv_i σ 64 4 - 1).toInt ≤ 1024 by omega)) rfl (ma_goodc kc_Machine_pop) (B.2.2.2.1 _ k_1592) (B.2.2.2.1 _ k_1594) (B.2.2.2.1 _ ks_72) (B.2.2.2.1 _ k_11) ⟨by decide +kernel, by decide +kernel, by decide +kernel⟩ rfl d_Machine_work_264 rfl (Nat.le_of_ble_eq_true rfl) ⟨by decide, by decide⟩ ⟨by decide, by decide⟩ ⟨by decide, by decide⟩ (mv_noH hno _) (fun v264 σ264 h264 => ?_)
    subst h264
    refine mv_lload_n (pc := 267) B d_Machine_work_267 rfl 3 rfl ?_
    refine mv_l2i (pc := 268) B d_Machine_work_268 ?_
    refine mv_lshl (pc := 269) B d_Machine_work_269 ?_
    refine mv_lload (pc := 270) B d_Machine_work_270 0 rfl ?_
    refine mv_lor (pc := 272) B d_Machine_work_272 ?_
    refine mv_callVv (pc := 273) (n := 1) (ci := 9) (C := R_Machine) B (mK_ok sk sv) hNs rfl rfl (c_Machine_push_a l hi _ _ hR (show 0 ≤ (mv_i σ 64 4 - 1 - 1).toInt by omega) (show (mv_i σ 64 4 - 1 - 1).toInt < 1024 by omega)) rfl (ma_goodc kc_Machine_push) (B.2.2.2.1 _ k_1584) (B.2.2.2.1 _ k_1586) (B.2.2.2.1 _ ks_70) (B.2.2.2.1 _ k_11) ⟨by decide +kernel, by decide +kernel, by decide +kernel⟩ rfl d_Machine_work_273 rfl (Nat.le_of_ble_eq_true rfl) ⟨by decide, by decide⟩ ⟨by decide, by decide⟩ ⟨by decide, by decide⟩ (mv_noH hno _) (fun σ273 h273 => ?_)
    subst h273
    refine mv_goto (pc := 276) (tgt := 301) B d_Machine_work_276 rfl ?_
    exact mv_vret (pc := 301) B hr d_Machine_work_301 (Nat.le_refl _) (Nat.le_refl _) ⟨rfl, ((((MF0.si ⟨rfl, Or.inl rfl⟩).si ⟨rfl, Or.inl rfl⟩).sb (Or.inr (Or.inr (Or.inl rfl)))).si ⟨rfl, Or.inl rfl⟩), Or.inr ⟨hU, by show (mv_i σ 64 4 - 1 - 1 + 1).toInt = h8; rw [i32_inc (by omega)]; omega⟩⟩
  refine ⟨fun h1 => ?_, fun h1n310 => ?_⟩
  · skip
    have h1 : d = 310 := Int32.toInt_inj.mp (show d.toInt = (310 : Int32).toInt from h1)
    subst h1
    have o1 : 1 ≤ h9 := hO.1
    have o2 : h8 + 1 = h9 + 1 := hO.2.1
    have p1 := sub_one (x := mv_i σ 64 4) (by omega)
    refine mv_aload_n (pc := 227) B d_Machine_work_227 rfl 0 rfl ?_
    refine mv_aload_n (pc := 228) B d_Machine_work_228 rfl 0 rfl ?_
    refine mv_callVl (pc := 229) (n := 0) (ci := 9) (C := R_Machine) B (mK_ok sk sv) hNs rfl rfl (c_Machine_pop_a l hi _ hR (show 1 ≤ (mv_i σ 64 4).toInt by omega) (show (mv_i σ 64 4).toInt ≤ 1024 by omega)) rfl (ma_goodc kc_Machine_pop) (B.2.2.2.1 _ k_1592) (B.2.2.2.1 _ k_1594) (B.2.2.2.1 _ ks_72) (B.2.2.2.1 _ k_11) ⟨by decide +kernel, by decide +kernel, by decide +kernel⟩ rfl d_Machine_work_229 rfl (Nat.le_of_ble_eq_true rfl) ⟨by decide, by decide⟩ ⟨by decide, by decide⟩ ⟨by decide, by decide⟩ (mv_noH hno _) (fun v229 σ229 h229 => ?_)
    subst h229
    refine mv_lload_n (pc := 232) B d_Machine_work_232 rfl 2 rfl ?_
    refine mv_ldc2 (pc := 233) (v := 255) B (B.2.2.2.1 _ k_1610) d_Machine_work_233 ?_
    refine mv_land (pc := 236) B d_Machine_work_236 ?_
    refine mv_l2i (pc := 237) B d_Machine_work_237 ?_
    refine mv_callSl (pc := 238) (n := 2) B (mK_ok sk sv) hNs (c_Bits_signed l hi _ _ _) rfl (ma_goodc kc_Bits_signed) (B.2.2.2.1 _ k_1611) (B.2.2.2.1 _ k_1612) (B.2.2.2.1 _ k_33) ⟨by decide +kernel, by decide +kernel, by decide +kernel⟩ rfl d_Machine_work_238 rfl (Nat.le_of_ble_eq_true rfl) ⟨by decide, by decide⟩ ⟨by decide, by decide⟩ ⟨by decide, by decide⟩ (mv_noH hno _) (fun v238 σ238 h238 => ?_)
    subst h238
    refine mv_lload_n (pc := 241) B d_Machine_work_241 rfl 2 rfl ?_
    refine mv_bipush (pc := 242) (v := 8) B d_Machine_work_242 (by decide) ?_
    refine mv_lshr (pc := 244) B d_Machine_work_244 ?_
    refine mv_l2i (pc := 245) B d_Machine_work_245 ?_
    refine mv_callSl (pc := 246) (n := 1) B (mK_ok sk sv) hNs (c_Bits_mask l hi _ _) rfl (ma_goodc kc_Bits_mask) (B.2.2.2.1 _ k_1604) (B.2.2.2.1 _ k_1437) (B.2.2.2.1 _ k_33) ⟨by decide +kernel, by decide +kernel, by decide +kernel⟩ rfl d_Machine_work_246 rfl (Nat.le_of_ble_eq_true rfl) ⟨by decide, by decide⟩ ⟨by decide, by decide⟩ ⟨by decide, by decide⟩ (mv_noH hno _) (fun v246 σ246 h246 => ?_)
    subst h246
    refine mv_land (pc := 249) B d_Machine_work_249 ?_
    refine mv_callVv (pc := 250) (n := 1) (ci := 9) (C := R_Machine) B (mK_ok sk sv) hNs rfl rfl (c_Machine_push_a l hi _ _ hR (show 0 ≤ (mv_i σ 64 4 - 1).toInt by omega) (show (mv_i σ 64 4 - 1).toInt < 1024 by omega)) rfl (ma_goodc kc_Machine_push) (B.2.2.2.1 _ k_1584) (B.2.2.2.1 _ k_1586) (B.2.2.2.1 _ ks_70) (B.2.2.2.1 _ k_11) ⟨by decide +kernel, by decide +kernel, by decide +kernel⟩ rfl d_Machine_work_250 rfl (Nat.le_of_ble_eq_true rfl) ⟨by decide, by decide⟩ ⟨by decide, by decide⟩ ⟨by decide, by decide⟩ (mv_noH hno _) (fun σ250 h250 => ?_)
    subst h250
    refine mv_goto (pc := 253) (tgt := 301) B d_Machine_work_253 rfl ?_
    exact mv_vret (pc := 301) B hr d_Machine_work_301 (Nat.le_refl _) (Nat.le_refl _) ⟨rfl, (((MF0.si ⟨rfl, Or.inl rfl⟩).sb (Or.inr (Or.inr (Or.inl rfl)))).si ⟨rfl, Or.inl rfl⟩), Or.inr ⟨hU, by show (mv_i σ 64 4 - 1 + 1).toInt = h8; rw [i32_inc (by omega)]; omega⟩⟩
  refine ⟨fun h1 => ?_, fun h1n311 => ?_⟩
  · skip
    exact absurd (Int32.toInt_inj.mp (show d.toInt = (311 : Int32).toInt from h1)) hx.2.2.1
  refine ⟨fun h1 => ?_, fun h1n312 => ?_⟩
  · skip
    exact absurd (Int32.toInt_inj.mp (show d.toInt = (312 : Int32).toInt from h1)) hx.2.2.2
  refine ⟨fun h1 => ?_, fun h1n313 => ?_⟩
  · skip
    have h1 : d = 313 := Int32.toInt_inj.mp (show d.toInt = (313 : Int32).toInt from h1)
    subst h1
    have o1 : 1 ≤ h9 := hO.1
    have o2 : h8 + 1 = h9 + 0 := hO.2.1
    have o3 := hO.2.2.1 (by decide)
    have o4 := l2i_nn o3.1 (by omega)
    have p1 := sub_one (x := mv_i σ 64 4) (by omega)
    refine mv_aload_n (pc := 112) B d_Machine_work_112 rfl 0 rfl ?_
    refine mv_getR (pc := 113) (ci := 9) (C := R_Machine) (T := F_Machine) (N := 13) B 2 rfl rfl (by decide) i_Machine (B.2.2.2.1 _ k_444) rfl (hR.1 _ 2 _ rfl) d_Machine_work_113 ?_
    refine mv_lload_n (pc := 116) B d_Machine_work_116 rfl 2 rfl ?_
    refine mv_l2i (pc := 117) B d_Machine_work_117 ?_
    refine mv_aload_n (pc := 118) B d_Machine_work_118 rfl 0 rfl ?_
    refine mv_callVl (pc := 119) (n := 0) (ci := 9) (C := R_Machine) B (mK_ok sk sv) hNs rfl rfl (c_Machine_pop_a l hi _ hR (show 1 ≤ (mv_i σ 64 4).toInt by omega) (show (mv_i σ 64 4).toInt ≤ 1024 by omega)) rfl (ma_goodc kc_Machine_pop) (B.2.2.2.1 _ k_1592) (B.2.2.2.1 _ k_1594) (B.2.2.2.1 _ ks_72) (B.2.2.2.1 _ k_11) ⟨by decide +kernel, by decide +kernel, by decide +kernel⟩ rfl d_Machine_work_119 rfl (Nat.le_of_ble_eq_true rfl) ⟨by decide, by decide⟩ ⟨by decide, by decide⟩ ⟨by decide, by decide⟩ (mv_noH hno _) (fun v119 σ119 h119 => ?_)
    subst h119
    refine mv_last (pc := 122) B rfl (i32_in (by omega) (by omega)) d_Machine_work_122 ?_
    refine mv_goto (pc := 123) (tgt := 301) B d_Machine_work_123 rfl ?_
    exact mv_vret (pc := 301) B hr d_Machine_work_301 (Nat.le_refl _) (Nat.le_refl _) ⟨rfl, (MF0.si ⟨rfl, Or.inl rfl⟩).sb (Or.inr (Or.inl rfl)), Or.inr ⟨hU, by show (mv_i σ 64 4 - 1).toInt = h8; omega⟩⟩
  refine ⟨fun h1 => ?_, fun h1n314 => ?_⟩
  · skip
    have h1 : d = 314 := Int32.toInt_inj.mp (show d.toInt = (314 : Int32).toInt from h1)
    subst h1
    have o1 : 1 ≤ h9 := hO.1
    have o2 : h8 + 1 = h9 + 0 := hO.2.1
    have o3 := hO.2.2.2.2 (by decide)
    have ht64 := hT.2.1
    have o4 := l2i_nn o3.1 (by omega)
    obtain ⟨c9, f9, hc9, hf9, hs1, hs2⟩ := hT.2.2.2.2.2.2.1 w.toInt.toNat (by omega)
    have hf9 : (mv_a σ 35 w.toInt.toNat).toInt = f9 := hf9
    have o5 : w.toInt32.toInt = w.toInt.toNat := by rw [o4]; omega
    have hsl := hT.2.2.2.1
    have hu9 := hu rfl
    have i1 : 0 ≤ (mv_a σ 35 w.toInt.toNat).toInt := by omega
    have i2 : (mv_a σ 35 w.toInt.toNat).toInt + (0 : Int32).toInt < 65600 := by show (mv_a σ 35 w.toInt.toNat).toInt + 0 < 65600; omega
    have p1 := sub_one (x := mv_i σ 64 4) (by omega)
    refine mv_aload_n (pc := 126) B d_Machine_work_126 rfl 0 rfl ?_
    refine mv_aload_n (pc := 127) B d_Machine_work_127 rfl 0 rfl ?_
    refine mv_getI (pc := 128) (ci := 9) (C := R_Machine) (T := F_Machine) (N := 13) B 8 rfl rfl (by decide) i_Machine (B.2.2.2.1 _ k_450) rfl d_Machine_work_128 ?_
    refine mv_if_ne (pc := 131) (tgt := 147) B d_Machine_work_131 rfl (fun h131 => ?_) (fun h131 => ?_)
    · skip
      refine mv_iconst (pc := 147) (v := 1) B d_Machine_work_147 (by decide) ?_
      refine mv_goto (pc := 148) (tgt := 152) B d_Machine_work_148 rfl ?_
      refine mv_putI (pc := 152) (ci := 9) (C := R_Machine) (T := F_Machine) (N := 13) B 8 rfl rfl (by decide) i_Machine t_Machine_ok n_Machine (B.2.2.2.1 _ k_450) rfl rfl (by first | rfl | decide) rfl d_Machine_work_152 ?_
      refine mv_aload_n (pc := 155) B d_Machine_work_155 rfl 0 rfl ?_
      refine mv_lload_n (pc := 156) B d_Machine_work_156 rfl 2 rfl ?_
      refine mv_l2i (pc := 157) B d_Machine_work_157 ?_
      refine mv_iconst (pc := 158) (v := 0) B d_Machine_work_158 (by decide) ?_
      refine mv_aload_n (pc := 159) B d_Machine_work_159 rfl 0 rfl ?_
      refine mv_callVl (pc := 160) (n := 0) (ci := 9) (C := R_Machine) B (mK_ok sk sv) hNs rfl rfl (c_Machine_pop_a l hi _ hR (show 1 ≤ (mv_i σ 64 4).toInt by omega) (show (mv_i σ 64 4).toInt ≤ 1024 by omega)) rfl (ma_goodc kc_Machine_pop) (B.2.2.2.1 _ k_1592) (B.2.2.2.1 _ k_1594) (B.2.2.2.1 _ ks_72) (B.2.2.2.1 _ k_11) ⟨by decide +kernel, by decide +kernel, by decide +kernel⟩ rfl d_Machine_work_160 rfl (Nat.le_of_ble_eq_true rfl) ⟨by decide, by decide⟩ ⟨by decide, by decide⟩ ⟨by decide, by decide⟩ (mv_noH hno _) (fun v160 σ160 h160 => ?_)
      subst h160
      refine mv_gen (fun S eS => ?_)
      have sR : Rf 32 (mv_r S) := by rw [eS]; exact hR
      have sT : Th 32 S th sl := by rw [eS]; exact hT
      have sU : Un S u := by rw [eS]; exact hU
      have sF : MF σ S := by rw [eS]; exact (MF0.si ⟨rfl, Or.inr (Or.inr rfl)⟩).si ⟨rfl, Or.inl rfl⟩
      have s4 : (mv_i S 64 4).toInt = h8 := by rw [eS]; show (mv_i σ 64 4 - 1).toInt = h8; omega
      have i1 : 0 ≤ (mv_a S 35 w.toInt.toNat).toInt := by rw [eS]; exact i1
      have i2 : (mv_a S 35 w.toInt.toNat).toInt + (0 : Int32).toInt < 65600 := by rw [eS]; exact i2
      clear eS
      refine mv_callVv (pc := 163) (n := 3) (ci := 9) (C := R_Machine) B (mK_ok sk sv) hNs rfl rfl (c_Machine_assign_a l hi _ _ _ _ sR th sl sT w.toInt.toNat o5 (by omega) (by decide) i1 i2 u sU hu9) rfl (ma_goodc kc_Machine_assign) (B.2.2.2.1 _ k_1596) (B.2.2.2.1 _ k_1598) (B.2.2.2.1 _ ks_73) (B.2.2.2.1 _ k_11) ⟨by decide +kernel, by decide +kernel, by decide +kernel⟩ rfl d_Machine_work_163 rfl (Nat.le_of_ble_eq_true rfl) ⟨by decide, by decide⟩ ⟨by decide, by decide⟩ ⟨by decide, by decide⟩ (mv_noH hno _) (fun σ163 h163 => ?_)
      obtain ⟨f163, u163, t163⟩ := h163
      refine mv_goto (pc := 166) (tgt := 301) B d_Machine_work_166 rfl ?_
      exact mv_vret (pc := 301) B hr d_Machine_work_301 (Nat.le_refl _) (Nat.le_refl _) ⟨rfl, sF.tr f163, Or.inl ⟨rfl, u163, by rw [t163]; exact s4⟩⟩
    · skip
      refine mv_lload_n (pc := 134) B d_Machine_work_134 rfl 2 rfl ?_
      refine mv_aload_n (pc := 135) B d_Machine_work_135 rfl 0 rfl ?_
      refine mv_getR (pc := 136) (ci := 9) (C := R_Machine) (T := F_Machine) (N := 13) B 0 rfl rfl (by decide) i_Machine (B.2.2.2.1 _ k_440) rfl hR.2.2 d_Machine_work_136 ?_
      refine mv_getI (pc := 139) (ci := 7) (C := R_Program) (T := F_Program) (N := 19) B 8 rfl rfl (by decide) i_Program (B.2.2.2.1 _ k_338) rfl d_Machine_work_139 ?_
      refine mv_i2l (pc := 142) B d_Machine_work_142 ?_
      refine mv_lcmp (pc := 143) B d_Machine_work_143 ?_
      refine mv_if_ne (pc := 144) (tgt := 151) B d_Machine_work_144 rfl (fun h144 => ?_) (fun h144 => ?_)
      · skip
        refine mv_iconst (pc := 151) (v := 0) B d_Machine_work_151 (by decide) ?_
        refine mv_putI (pc := 152) (ci := 9) (C := R_Machine) (T := F_Machine) (N := 13) B 8 rfl rfl (by decide) i_Machine t_Machine_ok n_Machine (B.2.2.2.1 _ k_450) rfl rfl (by first | rfl | decide) rfl d_Machine_work_152 ?_
        refine mv_aload_n (pc := 155) B d_Machine_work_155 rfl 0 rfl ?_
        refine mv_lload_n (pc := 156) B d_Machine_work_156 rfl 2 rfl ?_
        refine mv_l2i (pc := 157) B d_Machine_work_157 ?_
        refine mv_iconst (pc := 158) (v := 0) B d_Machine_work_158 (by decide) ?_
        refine mv_aload_n (pc := 159) B d_Machine_work_159 rfl 0 rfl ?_
        refine mv_callVl (pc := 160) (n := 0) (ci := 9) (C := R_Machine) B (mK_ok sk sv) hNs rfl rfl (c_Machine_pop_a l hi _ hR (show 1 ≤ (mv_i σ 64 4).toInt by omega) (show (mv_i σ 64 4).toInt ≤ 1024 by omega)) rfl (ma_goodc kc_Machine_pop) (B.2.2.2.1 _ k_1592) (B.2.2.2.1 _ k_1594) (B.2.2.2.1 _ ks_72) (B.2.2.2.1 _ k_11) ⟨by decide +kernel, by decide +kernel, by decide +kernel⟩ rfl d_Machine_work_160 rfl (Nat.le_of_ble_eq_true rfl) ⟨by decide, by decide⟩ ⟨by decide, by decide⟩ ⟨by decide, by decide⟩ (mv_noH hno _) (fun v160 σ160 h160 => ?_)
        subst h160
        refine mv_gen (fun S eS => ?_)
        have sR : Rf 32 (mv_r S) := by rw [eS]; exact hR
        have sT : Th 32 S th sl := by rw [eS]; exact hT
        have sU : Un S u := by rw [eS]; exact hU
        have sF : MF σ S := by rw [eS]; exact (MF0.si ⟨rfl, Or.inr (Or.inr rfl)⟩).si ⟨rfl, Or.inl rfl⟩
        have s4 : (mv_i S 64 4).toInt = h8 := by rw [eS]; show (mv_i σ 64 4 - 1).toInt = h8; omega
        have i1 : 0 ≤ (mv_a S 35 w.toInt.toNat).toInt := by rw [eS]; exact i1
        have i2 : (mv_a S 35 w.toInt.toNat).toInt + (0 : Int32).toInt < 65600 := by rw [eS]; exact i2
        clear eS
        refine mv_callVv (pc := 163) (n := 3) (ci := 9) (C := R_Machine) B (mK_ok sk sv) hNs rfl rfl (c_Machine_assign_a l hi _ _ _ _ sR th sl sT w.toInt.toNat o5 (by omega) (by decide) i1 i2 u sU hu9) rfl (ma_goodc kc_Machine_assign) (B.2.2.2.1 _ k_1596) (B.2.2.2.1 _ k_1598) (B.2.2.2.1 _ ks_73) (B.2.2.2.1 _ k_11) ⟨by decide +kernel, by decide +kernel, by decide +kernel⟩ rfl d_Machine_work_163 rfl (Nat.le_of_ble_eq_true rfl) ⟨by decide, by decide⟩ ⟨by decide, by decide⟩ ⟨by decide, by decide⟩ (mv_noH hno _) (fun σ163 h163 => ?_)
        obtain ⟨f163, u163, t163⟩ := h163
        refine mv_goto (pc := 166) (tgt := 301) B d_Machine_work_166 rfl ?_
        exact mv_vret (pc := 301) B hr d_Machine_work_301 (Nat.le_refl _) (Nat.le_refl _) ⟨rfl, sF.tr f163, Or.inl ⟨rfl, u163, by rw [t163]; exact s4⟩⟩
      · skip
        refine mv_iconst (pc := 147) (v := 1) B d_Machine_work_147 (by decide) ?_
        refine mv_goto (pc := 148) (tgt := 152) B d_Machine_work_148 rfl ?_
        refine mv_putI (pc := 152) (ci := 9) (C := R_Machine) (T := F_Machine) (N := 13) B 8 rfl rfl (by decide) i_Machine t_Machine_ok n_Machine (B.2.2.2.1 _ k_450) rfl rfl (by first | rfl | decide) rfl d_Machine_work_152 ?_
        refine mv_aload_n (pc := 155) B d_Machine_work_155 rfl 0 rfl ?_
        refine mv_lload_n (pc := 156) B d_Machine_work_156 rfl 2 rfl ?_
        refine mv_l2i (pc := 157) B d_Machine_work_157 ?_
        refine mv_iconst (pc := 158) (v := 0) B d_Machine_work_158 (by decide) ?_
        refine mv_aload_n (pc := 159) B d_Machine_work_159 rfl 0 rfl ?_
        refine mv_callVl (pc := 160) (n := 0) (ci := 9) (C := R_Machine) B (mK_ok sk sv) hNs rfl rfl (c_Machine_pop_a l hi _ hR (show 1 ≤ (mv_i σ 64 4).toInt by omega) (show (mv_i σ 64 4).toInt ≤ 1024 by omega)) rfl (ma_goodc kc_Machine_pop) (B.2.2.2.1 _ k_1592) (B.2.2.2.1 _ k_1594) (B.2.2.2.1 _ ks_72) (B.2.2.2.1 _ k_11) ⟨by decide +kernel, by decide +kernel, by decide +kernel⟩ rfl d_Machine_work_160 rfl (Nat.le_of_ble_eq_true rfl) ⟨by decide, by decide⟩ ⟨by decide, by decide⟩ ⟨by decide, by decide⟩ (mv_noH hno _) (fun v160 σ160 h160 => ?_)
        subst h160
        refine mv_gen (fun S eS => ?_)
        have sR : Rf 32 (mv_r S) := by rw [eS]; exact hR
        have sT : Th 32 S th sl := by rw [eS]; exact hT
        have sU : Un S u := by rw [eS]; exact hU
        have sF : MF σ S := by rw [eS]; exact (MF0.si ⟨rfl, Or.inr (Or.inr rfl)⟩).si ⟨rfl, Or.inl rfl⟩
        have s4 : (mv_i S 64 4).toInt = h8 := by rw [eS]; show (mv_i σ 64 4 - 1).toInt = h8; omega
        have i1 : 0 ≤ (mv_a S 35 w.toInt.toNat).toInt := by rw [eS]; exact i1
        have i2 : (mv_a S 35 w.toInt.toNat).toInt + (0 : Int32).toInt < 65600 := by rw [eS]; exact i2
        clear eS
        refine mv_callVv (pc := 163) (n := 3) (ci := 9) (C := R_Machine) B (mK_ok sk sv) hNs rfl rfl (c_Machine_assign_a l hi _ _ _ _ sR th sl sT w.toInt.toNat o5 (by omega) (by decide) i1 i2 u sU hu9) rfl (ma_goodc kc_Machine_assign) (B.2.2.2.1 _ k_1596) (B.2.2.2.1 _ k_1598) (B.2.2.2.1 _ ks_73) (B.2.2.2.1 _ k_11) ⟨by decide +kernel, by decide +kernel, by decide +kernel⟩ rfl d_Machine_work_163 rfl (Nat.le_of_ble_eq_true rfl) ⟨by decide, by decide⟩ ⟨by decide, by decide⟩ ⟨by decide, by decide⟩ (mv_noH hno _) (fun σ163 h163 => ?_)
        obtain ⟨f163, u163, t163⟩ := h163
        refine mv_goto (pc := 166) (tgt := 301) B d_Machine_work_166 rfl ?_
        exact mv_vret (pc := 301) B hr d_Machine_work_301 (Nat.le_refl _) (Nat.le_refl _) ⟨rfl, sF.tr f163, Or.inl ⟨rfl, u163, by rw [t163]; exact s4⟩⟩
  show mv_V _ _ _ _ _ _ _ _ _ _ _ _ _ _ _ _ 279 _ _
  have n300 : ¬ d = 300 := fun q => h1n300 (by rw [q]; rfl)
  have n301 : ¬ d = 301 := fun q => h1n301 (by rw [q]; rfl)
  have n302 : ¬ d = 302 := fun q => h1n302 (by rw [q]; rfl)
  have n303 : ¬ d = 303 := fun q => h1n303 (by rw [q]; rfl)
  have n304 : ¬ d = 304 := fun q => h1n304 (by rw [q]; rfl)
  have n305 : ¬ d = 305 := fun q => h1n305 (by rw [q]; rfl)
  have n306 : ¬ d = 306 := fun q => h1n306 (by rw [q]; rfl)
  have n307 : ¬ d = 307 := fun q => h1n307 (by rw [q]; rfl)
  have n308 : ¬ d = 308 := fun q => h1n308 (by rw [q]; rfl)
  have n309 : ¬ d = 309 := fun q => h1n309 (by rw [q]; rfl)
  have n310 : ¬ d = 310 := fun q => h1n310 (by rw [q]; rfl)
  have n311 : ¬ d = 311 := fun q => h1n311 (by rw [q]; rfl)
  have n312 : ¬ d = 312 := fun q => h1n312 (by rw [q]; rfl)
  have n313 : ¬ d = 313 := fun q => h1n313 (by rw [q]; rfl)
  have n314 : ¬ d = 314 := fun q => h1n314 (by rw [q]; rfl)
  have o0 : opd d = (2, 1) := by
    unfold opd
    rw [if_neg (by rintro (q | q | q | q) <;> contradiction), if_neg (by rintro (q | q | q | q | q | q) <;> contradiction), if_neg (by rintro (q | q) <;> contradiction), if_neg hx5]
  have o1 : 2 ≤ h9 := by have := hO.1; rw [o0] at this; exact this
  have o2 : h8 + 2 = h9 + 1 := by have := hO.2.1; rw [o0] at this; exact this
  have p1 := sub_one (x := mv_i σ 64 4) (by omega)
  have p2 := sub_one (x := mv_i σ 64 4 - 1) (by omega)
  refine mv_aload_n (pc := 279) B d_Machine_work_279 rfl 0 rfl ?_
  refine mv_callVl (pc := 280) (n := 0) (ci := 9) (C := R_Machine) B (mK_ok sk sv) hNs rfl rfl (c_Machine_pop_a l hi _ hR (show 1 ≤ (mv_i σ 64 4).toInt by omega) (show (mv_i σ 64 4).toInt ≤ 1024 by omega)) rfl (ma_goodc kc_Machine_pop) (B.2.2.2.1 _ k_1592) (B.2.2.2.1 _ k_1594) (B.2.2.2.1 _ ks_72) (B.2.2.2.1 _ k_11) ⟨by decide +kernel, by decide +kernel, by decide +kernel⟩ rfl d_Machine_work_280 rfl (Nat.le_of_ble_eq_true rfl) ⟨by decide, by decide⟩ ⟨by decide, by decide⟩ ⟨by decide, by decide⟩ (mv_noH hno _) (fun v280 σ280 h280 => ?_)
  subst h280
  refine mv_lstore (pc := 283) B d_Machine_work_283 (by decide) rfl ?_
  refine mv_aload_n (pc := 285) B d_Machine_work_285 rfl 1 rfl ?_
  refine mv_iload_n (pc := 286) B d_Machine_work_286 rfl 2 rfl ?_
  refine mv_aload_n (pc := 287) B d_Machine_work_287 rfl 1 rfl ?_
  refine mv_callVl (pc := 288) (n := 0) (ci := 9) (C := R_Machine) B (mK_ok sk sv) hNs rfl rfl (c_Machine_pop_a l hi _ hR (show 1 ≤ (mv_i σ 64 4 - 1).toInt by omega) (show (mv_i σ 64 4 - 1).toInt ≤ 1024 by omega)) rfl (ma_goodc kc_Machine_pop) (B.2.2.2.1 _ k_1592) (B.2.2.2.1 _ k_1594) (B.2.2.2.1 _ ks_72) (B.2.2.2.1 _ k_11) ⟨by decide +kernel, by decide +kernel, by decide +kernel⟩ rfl d_Machine_work_288 rfl (Nat.le_of_ble_eq_true rfl) ⟨by decide, by decide⟩ ⟨by decide, by decide⟩ ⟨by decide, by decide⟩ (mv_noH hno _) (fun v288 σ288 h288 => ?_)
  subst h288
  refine mv_lload (pc := 291) B d_Machine_work_291 0 rfl ?_
  refine mv_lload_n (pc := 293) B d_Machine_work_293 rfl 3 rfl ?_
  refine mv_l2i (pc := 294) B d_Machine_work_294 ?_
  refine mv_callSl (pc := 295) (n := 4) B (mK_ok sk sv) hNs (c_Bits_ofTwo l hi _ _ _ _ _) rfl (ma_goodc kc_Bits_ofTwo) (B.2.2.2.1 _ k_1614) (B.2.2.2.1 _ k_1615) (B.2.2.2.1 _ k_33) ⟨by decide +kernel, by decide +kernel, by decide +kernel⟩ rfl d_Machine_work_295 rfl (Nat.le_of_ble_eq_true rfl) ⟨by decide, by decide⟩ ⟨by decide, by decide⟩ ⟨by decide, by decide⟩ (mv_noH hno _) (fun v295 σ295 h295 => ?_)
  subst h295
  refine mv_callVv (pc := 298) (n := 1) (ci := 9) (C := R_Machine) B (mK_ok sk sv) hNs rfl rfl (c_Machine_push_a l hi _ _ hR (show 0 ≤ (mv_i σ 64 4 - 1 - 1).toInt by omega) (show (mv_i σ 64 4 - 1 - 1).toInt < 1024 by omega)) rfl (ma_goodc kc_Machine_push) (B.2.2.2.1 _ k_1584) (B.2.2.2.1 _ k_1586) (B.2.2.2.1 _ ks_70) (B.2.2.2.1 _ k_11) ⟨by decide +kernel, by decide +kernel, by decide +kernel⟩ rfl d_Machine_work_298 rfl (Nat.le_of_ble_eq_true rfl) ⟨by decide, by decide⟩ ⟨by decide, by decide⟩ ⟨by decide, by decide⟩ (mv_noH hno _) (fun σ298 h298 => ?_)
  subst h298
  exact mv_vret (pc := 301) B hr d_Machine_work_301 (Nat.le_refl _) (Nat.le_refl _) ⟨rfl, ((((MF0.si ⟨rfl, Or.inl rfl⟩).si ⟨rfl, Or.inl rfl⟩).sb (Or.inr (Or.inr (Or.inl rfl)))).si ⟨rfl, Or.inl rfl⟩), Or.inr ⟨hU, by show (mv_i σ 64 4 - 1 - 1 + 1).toInt = h8; rw [i32_inc (by omega)]; omega⟩⟩
set_option maxHeartbeats 4000000 in
set_option maxRecDepth 100000 in
theorem c_Machine_work_b (l : Launch) {dA : FieldType → ClassId} {D : va_G} {al : Nat → Nat} {ext : mv_Sh} {sk sv : Nat → Nat} (hi : mv_inj (mg dA D al ext)) (σ : mv_H) (d : Int32) (w : Int64) (hR : Rf 48 (mv_r σ)) (th sl : Nat) (hT : Th 48 σ th sl) (h9 h8 : Nat) (hh : (mv_i σ 64 4).toInt = h9) (hh1 : h9 ≤ 1024) (hh2 : h8 ≤ 1024) (hO : Op1 th d w h9 h8) (hx : ¬ d = 301 ∧ ¬ d = 304 ∧ ¬ d = 311 ∧ ¬ d = 312) (hx5 : ¬ d = 315) (u : Nat) (hU : Un σ u) (hu : d = 314 → u < 8193) : mv_C l y_Machine_work (Cond.code y_Machine_work b_Machine_work 8 (Option.none : Option Jvm.ClassFile.FieldType) :: ma) ({ frames := 3, cells := 0, slots := 0, locals := 74 }) (mg dA D al ext) (mK sk sv) [.ref (al 64), .int d, .long w] σ (mv_Rv (fun σ1 => MF σ σ1 ∧ ((d = 314 ∧ Un σ1 (u + 1) ∧ (mv_i σ1 64 4).toInt = h8) ∨ (Un σ1 u ∧ (mv_i σ1 64 4).toInt = h8)))) := by
  refine mv_C.ofV (cc := b_Machine_work) (nL := 8) (ret := (Option.none : Option Jvm.ClassFile.FieldType)) (by decide +kernel) rfl hi (Nat.le_of_ble_eq_true rfl) ?_
  intro p e s m below meth c B hNs hr hnm hno
  refine mv_iload_n (pc := 0) B d_Machine_work_0 rfl 1 rfl ?_
  refine mv_tsw (pc := 1) B d_Machine_work_1 (by decide) (by decide) ?_
  refine ⟨fun h1 => ?_, fun h1n300 => ?_⟩
  · skip
    have h1 : d = 300 := Int32.toInt_inj.mp (show d.toInt = (300 : Int32).toInt from h1)
    subst h1
    have o1 : 0 ≤ h9 := hO.1
    have o2 : h8 + 0 = h9 + 1 := hO.2.1
    refine mv_aload_n (pc := 76) B d_Machine_work_76 rfl 0 rfl ?_
    refine mv_lload_n (pc := 77) B d_Machine_work_77 rfl 2 rfl ?_
    refine mv_callVv (pc := 78) (n := 1) (ci := 9) (C := R_Machine) B (mK_ok sk sv) hNs rfl rfl (c_Machine_push_b l hi _ _ hR (by omega) (by omega)) rfl (ma_goodc kc_Machine_push) (B.2.2.2.1 _ k_1584) (B.2.2.2.1 _ k_1586) (B.2.2.2.1 _ ks_70) (B.2.2.2.1 _ k_11) ⟨by decide +kernel, by decide +kernel, by decide +kernel⟩ rfl d_Machine_work_78 rfl (Nat.le_of_ble_eq_true rfl) ⟨by decide, by decide⟩ ⟨by decide, by decide⟩ ⟨by decide, by decide⟩ (mv_noH hno _) (fun σ78 h78 => ?_)
    subst h78
    refine mv_goto (pc := 81) (tgt := 301) B d_Machine_work_81 rfl ?_
    exact mv_vret (pc := 301) B hr d_Machine_work_301 (Nat.le_refl _) (Nat.le_refl _) ⟨rfl, ((MF0.sb (Or.inr (Or.inr (Or.inl rfl)))).si ⟨rfl, Or.inl rfl⟩), Or.inr ⟨hU, by show (mv_i σ 64 4 + 1).toInt = h8; rw [i32_inc (by omega)]; omega⟩⟩
  refine ⟨fun h1 => ?_, fun h1n301 => ?_⟩
  · skip
    exact absurd (Int32.toInt_inj.mp (show d.toInt = (301 : Int32).toInt from h1)) hx.1
  refine ⟨fun h1 => ?_, fun h1n302 => ?_⟩
  · skip
    have h1 : d = 302 := Int32.toInt_inj.mp (show d.toInt = (302 : Int32).toInt from h1)
    subst h1
    have o1 : 0 ≤ h9 := hO.1
    have o2 : h8 + 0 = h9 + 1 := hO.2.1
    have o3 := hO.2.2.1 (by decide)
    have o4 := l2i_nn o3.1 (by omega)
    refine mv_aload_n (pc := 84) B d_Machine_work_84 rfl 0 rfl ?_
    refine mv_aload_n (pc := 85) B d_Machine_work_85 rfl 0 rfl ?_
    refine mv_getR (pc := 86) (ci := 9) (C := R_Machine) (T := F_Machine) (N := 13) B 2 rfl rfl (by decide) i_Machine (B.2.2.2.1 _ k_444) rfl (hR.1 _ 2 _ rfl) d_Machine_work_86 ?_
    refine mv_lload_n (pc := 89) B d_Machine_work_89 rfl 2 rfl ?_
    refine mv_l2i (pc := 90) B d_Machine_work_90 ?_
    refine mv_lald (pc := 91) B rfl (i32_in (by omega) (by omega)) d_Machine_work_91 ?_
    refine mv_callVv (pc := 92) (n := 1) (ci := 9) (C := R_Machine) B (mK_ok sk sv) hNs rfl rfl (c_Machine_push_b l hi _ _ hR (by omega) (by omega)) rfl (ma_goodc kc_Machine_push) (B.2.2.2.1 _ k_1584) (B.2.2.2.1 _ k_1586) (B.2.2.2.1 _ ks_70) (B.2.2.2.1 _ k_11) ⟨by decide +kernel, by decide +kernel, by decide +kernel⟩ rfl d_Machine_work_92 rfl (Nat.le_of_ble_eq_true rfl) ⟨by decide, by decide⟩ ⟨by decide, by decide⟩ ⟨by decide, by decide⟩ (mv_noH hno _) (fun σ92 h92 => ?_)
    subst h92
    refine mv_goto (pc := 95) (tgt := 301) B d_Machine_work_95 rfl ?_
    exact mv_vret (pc := 301) B hr d_Machine_work_301 (Nat.le_refl _) (Nat.le_refl _) ⟨rfl, ((MF0.sb (Or.inr (Or.inr (Or.inl rfl)))).si ⟨rfl, Or.inl rfl⟩), Or.inr ⟨hU, by show (mv_i σ 64 4 + 1).toInt = h8; rw [i32_inc (by omega)]; omega⟩⟩
  refine ⟨fun h1 => ?_, fun h1n303 => ?_⟩
  · skip
    have h1 : d = 303 := Int32.toInt_inj.mp (show d.toInt = (303 : Int32).toInt from h1)
    subst h1
    have o1 : 0 ≤ h9 := hO.1
    have o2 : h8 + 0 = h9 + 1 := hO.2.1
    have o3 := hO.2.2.2.1 rfl
    have o4 := l2i_nn o3.1 (by omega)
    refine mv_aload_n (pc := 98) B d_Machine_work_98 rfl 0 rfl ?_
    refine mv_aload_n (pc := 99) B d_Machine_work_99 rfl 0 rfl ?_
    refine mv_getR (pc := 100) (ci := 9) (C := R_Machine) (T := F_Machine) (N := 13) B 1 rfl rfl (by decide) i_Machine (B.2.2.2.1 _ k_442) rfl (hR.1 _ 1 _ rfl) d_Machine_work_100 ?_
    refine mv_lload_n (pc := 103) B d_Machine_work_103 rfl 2 rfl ?_
    refine mv_l2i (pc := 104) B d_Machine_work_104 ?_
    refine mv_lald (pc := 105) B rfl (i32_in (by omega) (by omega)) d_Machine_work_105 ?_
    refine mv_callVv (pc := 106) (n := 1) (ci := 9) (C := R_Machine) B (mK_ok sk sv) hNs rfl rfl (c_Machine_push_b l hi _ _ hR (by omega) (by omega)) rfl (ma_goodc kc_Machine_push) (B.2.2.2.1 _ k_1584) (B.2.2.2.1 _ k_1586) (B.2.2.2.1 _ ks_70) (B.2.2.2.1 _ k_11) ⟨by decide +kernel, by decide +kernel, by decide +kernel⟩ rfl d_Machine_work_106 rfl (Nat.le_of_ble_eq_true rfl) ⟨by decide, by decide⟩ ⟨by decide, by decide⟩ ⟨by decide, by decide⟩ (mv_noH hno _) (fun σ106 h106 => ?_)
    subst h106
    refine mv_goto (pc := 109) (tgt := 301) B d_Machine_work_109 rfl ?_
    exact mv_vret (pc := 301) B hr d_Machine_work_301 (Nat.le_refl _) (Nat.le_refl _) ⟨rfl, ((MF0.sb (Or.inr (Or.inr (Or.inl rfl)))).si ⟨rfl, Or.inl rfl⟩), Or.inr ⟨hU, by show (mv_i σ 64 4 + 1).toInt = h8; rw [i32_inc (by omega)]; omega⟩⟩
  refine ⟨fun h1 => ?_, fun h1n304 => ?_⟩
  · skip
    exact absurd (Int32.toInt_inj.mp (show d.toInt = (304 : Int32).toInt from h1)) hx.2.1
  refine ⟨fun h1 => ?_, fun h1n305 => ?_⟩
  · skip
    have h1 : d = 305 := Int32.toInt_inj.mp (show d.toInt = (305 : Int32).toInt from h1)
    subst h1
    have o1 : 1 ≤ h9 := hO.1
    have o2 : h8 + 1 = h9 + 1 := hO.2.1
    have p1 := sub_one (x := mv_i σ 64 4) (by omega)
    refine mv_aload_n (pc := 169) B d_Machine_work_169 rfl 0 rfl ?_
    refine mv_aload_n (pc := 170) B d_Machine_work_170 rfl 0 rfl ?_
    refine mv_callVl (pc := 171) (n := 0) (ci := 9) (C := R_Machine) B (mK_ok sk sv) hNs rfl rfl (c_Machine_pop_b l hi _ hR (show 1 ≤ (mv_i σ 64 4).toInt by omega) (show (mv_i σ 64 4).toInt ≤ 1024 by omega)) rfl (ma_goodc kc_Machine_pop) (B.2.2.2.1 _ k_1592) (B.2.2.2.1 _ k_1594) (B.2.2.2.1 _ ks_72) (B.2.2.2.1 _ k_11) ⟨by decide +kernel, by decide +kernel, by decide +kernel⟩ rfl d_Machine_work_171 rfl (Nat.le_of_ble_eq_true rfl) ⟨by decide, by decide⟩ ⟨by decide, by decide⟩ ⟨by decide, by decide⟩ (mv_noH hno _) (fun v171 σ171 h171 => ?_)
    subst h171
    refine mv_lneg (pc := 174) B d_Machine_work_174 ?_
    refine mv_lload_n (pc := 175) B d_Machine_work_175 rfl 2 rfl ?_
    refine mv_land (pc := 176) B d_Machine_work_176 ?_
    refine mv_callVv (pc := 177) (n := 1) (ci := 9) (C := R_Machine) B (mK_ok sk sv) hNs rfl rfl (c_Machine_push_b l hi _ _ hR (show 0 ≤ (mv_i σ 64 4 - 1).toInt by omega) (show (mv_i σ 64 4 - 1).toInt < 1024 by omega)) rfl (ma_goodc kc_Machine_push) (B.2.2.2.1 _ k_1584) (B.2.2.2.1 _ k_1586) (B.2.2.2.1 _ ks_70) (B.2.2.2.1 _ k_11) ⟨by decide +kernel, by decide +kernel, by decide +kernel⟩ rfl d_Machine_work_177 rfl (Nat.le_of_ble_eq_true rfl) ⟨by decide, by decide⟩ ⟨by decide, by decide⟩ ⟨by decide, by decide⟩ (mv_noH hno _) (fun σ177 h177 => ?_)
    subst h177
    refine mv_goto (pc := 180) (tgt := 301) B d_Machine_work_180 rfl ?_
    exact mv_vret (pc := 301) B hr d_Machine_work_301 (Nat.le_refl _) (Nat.le_refl _) ⟨rfl, (((MF0.si ⟨rfl, Or.inl rfl⟩).sb (Or.inr (Or.inr (Or.inl rfl)))).si ⟨rfl, Or.inl rfl⟩), Or.inr ⟨hU, by show (mv_i σ 64 4 - 1 + 1).toInt = h8; rw [i32_inc (by omega)]; omega⟩⟩
  refine ⟨fun h1 => ?_, fun h1n306 => ?_⟩
  · skip
    have h1 : d = 306 := Int32.toInt_inj.mp (show d.toInt = (306 : Int32).toInt from h1)
    subst h1
    have o1 : 1 ≤ h9 := hO.1
    have o2 : h8 + 1 = h9 + 1 := hO.2.1
    have p1 := sub_one (x := mv_i σ 64 4) (by omega)
    refine mv_aload_n (pc := 183) B d_Machine_work_183 rfl 0 rfl ?_
    refine mv_aload_n (pc := 184) B d_Machine_work_184 rfl 0 rfl ?_
    refine mv_callVl (pc := 185) (n := 0) (ci := 9) (C := R_Machine) B (mK_ok sk sv) hNs rfl rfl (c_Machine_pop_b l hi _ hR (show 1 ≤ (mv_i σ 64 4).toInt by omega) (show (mv_i σ 64 4).toInt ≤ 1024 by omega)) rfl (ma_goodc kc_Machine_pop) (B.2.2.2.1 _ k_1592) (B.2.2.2.1 _ k_1594) (B.2.2.2.1 _ ks_72) (B.2.2.2.1 _ k_11) ⟨by decide +kernel, by decide +kernel, by decide +kernel⟩ rfl d_Machine_work_185 rfl (Nat.le_of_ble_eq_true rfl) ⟨by decide, by decide⟩ ⟨by decide, by decide⟩ ⟨by decide, by decide⟩ (mv_noH hno _) (fun v185 σ185 h185 => ?_)
    subst h185
    refine mv_ldc2 (pc := 188) (v := -1) B (B.2.2.2.1 _ k_1609) d_Machine_work_188 ?_
    refine mv_lxor (pc := 191) B d_Machine_work_191 ?_
    refine mv_lload_n (pc := 192) B d_Machine_work_192 rfl 2 rfl ?_
    refine mv_land (pc := 193) B d_Machine_work_193 ?_
    refine mv_callVv (pc := 194) (n := 1) (ci := 9) (C := R_Machine) B (mK_ok sk sv) hNs rfl rfl (c_Machine_push_b l hi _ _ hR (show 0 ≤ (mv_i σ 64 4 - 1).toInt by omega) (show (mv_i σ 64 4 - 1).toInt < 1024 by omega)) rfl (ma_goodc kc_Machine_push) (B.2.2.2.1 _ k_1584) (B.2.2.2.1 _ k_1586) (B.2.2.2.1 _ ks_70) (B.2.2.2.1 _ k_11) ⟨by decide +kernel, by decide +kernel, by decide +kernel⟩ rfl d_Machine_work_194 rfl (Nat.le_of_ble_eq_true rfl) ⟨by decide, by decide⟩ ⟨by decide, by decide⟩ ⟨by decide, by decide⟩ (mv_noH hno _) (fun σ194 h194 => ?_)
    subst h194
    refine mv_goto (pc := 197) (tgt := 301) B d_Machine_work_197 rfl ?_
    exact mv_vret (pc := 301) B hr d_Machine_work_301 (Nat.le_refl _) (Nat.le_refl _) ⟨rfl, (((MF0.si ⟨rfl, Or.inl rfl⟩).sb (Or.inr (Or.inr (Or.inl rfl)))).si ⟨rfl, Or.inl rfl⟩), Or.inr ⟨hU, by show (mv_i σ 64 4 - 1 + 1).toInt = h8; rw [i32_inc (by omega)]; omega⟩⟩
  refine ⟨fun h1 => ?_, fun h1n307 => ?_⟩
  · skip
    have h1 : d = 307 := Int32.toInt_inj.mp (show d.toInt = (307 : Int32).toInt from h1)
    subst h1
    have o1 : 1 ≤ h9 := hO.1
    have o2 : h8 + 1 = h9 + 1 := hO.2.1
    have p1 := sub_one (x := mv_i σ 64 4) (by omega)
    refine mv_aload_n (pc := 183) B d_Machine_work_183 rfl 0 rfl ?_
    refine mv_aload_n (pc := 184) B d_Machine_work_184 rfl 0 rfl ?_
    refine mv_callVl (pc := 185) (n := 0) (ci := 9) (C := R_Machine) B (mK_ok sk sv) hNs rfl rfl (c_Machine_pop_b l hi _ hR (show 1 ≤ (mv_i σ 64 4).toInt by omega) (show (mv_i σ 64 4).toInt ≤ 1024 by omega)) rfl (ma_goodc kc_Machine_pop) (B.2.2.2.1 _ k_1592) (B.2.2.2.1 _ k_1594) (B.2.2.2.1 _ ks_72) (B.2.2.2.1 _ k_11) ⟨by decide +kernel, by decide +kernel, by decide +kernel⟩ rfl d_Machine_work_185 rfl (Nat.le_of_ble_eq_true rfl) ⟨by decide, by decide⟩ ⟨by decide, by decide⟩ ⟨by decide, by decide⟩ (mv_noH hno _) (fun v185 σ185 h185 => ?_)
    subst h185
    refine mv_ldc2 (pc := 188) (v := -1) B (B.2.2.2.1 _ k_1609) d_Machine_work_188 ?_
    refine mv_lxor (pc := 191) B d_Machine_work_191 ?_
    refine mv_lload_n (pc := 192) B d_Machine_work_192 rfl 2 rfl ?_
    refine mv_land (pc := 193) B d_Machine_work_193 ?_
    refine mv_callVv (pc := 194) (n := 1) (ci := 9) (C := R_Machine) B (mK_ok sk sv) hNs rfl rfl (c_Machine_push_b l hi _ _ hR (show 0 ≤ (mv_i σ 64 4 - 1).toInt by omega) (show (mv_i σ 64 4 - 1).toInt < 1024 by omega)) rfl (ma_goodc kc_Machine_push) (B.2.2.2.1 _ k_1584) (B.2.2.2.1 _ k_1586) (B.2.2.2.1 _ ks_70) (B.2.2.2.1 _ k_11) ⟨by decide +kernel, by decide +kernel, by decide +kernel⟩ rfl d_Machine_work_194 rfl (Nat.le_of_ble_eq_true rfl) ⟨by decide, by decide⟩ ⟨by decide, by decide⟩ ⟨by decide, by decide⟩ (mv_noH hno _) (fun σ194 h194 => ?_)
    subst h194
    refine mv_goto (pc := 197) (tgt := 301) B d_Machine_work_197 rfl ?_
    exact mv_vret (pc := 301) B hr d_Machine_work_301 (Nat.le_refl _) (Nat.le_refl _) ⟨rfl, (((MF0.si ⟨rfl, Or.inl rfl⟩).sb (Or.inr (Or.inr (Or.inl rfl)))).si ⟨rfl, Or.inl rfl⟩), Or.inr ⟨hU, by show (mv_i σ 64 4 - 1 + 1).toInt = h8; rw [i32_inc (by omega)]; omega⟩⟩
  refine ⟨fun h1 => ?_, fun h1n308 => ?_⟩
  · skip
    have h1 : d = 308 := Int32.toInt_inj.mp (show d.toInt = (308 : Int32).toInt from h1)
    subst h1
    have o1 : 1 ≤ h9 := hO.1
    have o2 : h8 + 1 = h9 + 1 := hO.2.1
    have p1 := sub_one (x := mv_i σ 64 4) (by omega)
    refine mv_aload_n (pc := 200) B d_Machine_work_200 rfl 0 rfl ?_
    refine mv_aload_n (pc := 201) B d_Machine_work_201 rfl 0 rfl ?_
    refine mv_callVl (pc := 202) (n := 0) (ci := 9) (C := R_Machine) B (mK_ok sk sv) hNs rfl rfl (c_Machine_pop_b l hi _ hR (show 1 ≤ (mv_i σ 64 4).toInt by omega) (show (mv_i σ 64 4).toInt ≤ 1024 by omega)) rfl (ma_goodc kc_Machine_pop) (B.2.2.2.1 _ k_1592) (B.2.2.2.1 _ k_1594) (B.2.2.2.1 _ ks_72) (B.2.2.2.1 _ k_11) ⟨by decide +kernel, by decide +kernel, by decide +kernel⟩ rfl d_Machine_work_202 rfl (Nat.le_of_ble_eq_true rfl) ⟨by decide, by decide⟩ ⟨by decide, by decide⟩ ⟨by decide, by decide⟩ (mv_noH hno _) (fun v202 σ202 h202 => ?_)
    subst h202
    refine mv_lload_n (pc := 205) B d_Machine_work_205 rfl 2 rfl ?_
    refine mv_ldc2 (pc := 206) (v := 255) B (B.2.2.2.1 _ k_1610) d_Machine_work_206 ?_
    refine mv_land (pc := 209) B d_Machine_work_209 ?_
    refine mv_l2i (pc := 210) B d_Machine_work_210 ?_
    refine mv_lushr (pc := 211) B d_Machine_work_211 ?_
    refine mv_lload_n (pc := 212) B d_Machine_work_212 rfl 2 rfl ?_
    refine mv_bipush (pc := 213) (v := 8) B d_Machine_work_213 (by decide) ?_
    refine mv_lshr (pc := 215) B d_Machine_work_215 ?_
    refine mv_l2i (pc := 216) B d_Machine_work_216 ?_
    refine mv_callSl (pc := 217) (n := 1) B (mK_ok sk sv) hNs (c_Bits_mask l hi _ _) rfl (ma_goodc kc_Bits_mask) (B.2.2.2.1 _ k_1604) (B.2.2.2.1 _ k_1437) (B.2.2.2.1 _ k_33) ⟨by decide +kernel, by decide +kernel, by decide +kernel⟩ rfl d_Machine_work_217 rfl (Nat.le_of_ble_eq_true rfl) ⟨by decide, by decide⟩ ⟨by decide, by decide⟩ ⟨by decide, by decide⟩ (mv_noH hno _) (fun v217 σ217 h217 => ?_)
    subst h217
    refine mv_land (pc := 220) B d_Machine_work_220 ?_
    refine mv_callVv (pc := 221) (n := 1) (ci := 9) (C := R_Machine) B (mK_ok sk sv) hNs rfl rfl (c_Machine_push_b l hi _ _ hR (show 0 ≤ (mv_i σ 64 4 - 1).toInt by omega) (show (mv_i σ 64 4 - 1).toInt < 1024 by omega)) rfl (ma_goodc kc_Machine_push) (B.2.2.2.1 _ k_1584) (B.2.2.2.1 _ k_1586) (B.2.2.2.1 _ ks_70) (B.2.2.2.1 _ k_11) ⟨by decide +kernel, by decide +kernel, by decide +kernel⟩ rfl d_Machine_work_221 rfl (Nat.le_of_ble_eq_true rfl) ⟨by decide, by decide⟩ ⟨by decide, by decide⟩ ⟨by decide, by decide⟩ (mv_noH hno _) (fun σ221 h221 => ?_)
    subst h221
    refine mv_goto (pc := 224) (tgt := 301) B d_Machine_work_224 rfl ?_
    exact mv_vret (pc := 301) B hr d_Machine_work_301 (Nat.le_refl _) (Nat.le_refl _) ⟨rfl, (((MF0.si ⟨rfl, Or.inl rfl⟩).sb (Or.inr (Or.inr (Or.inl rfl)))).si ⟨rfl, Or.inl rfl⟩), Or.inr ⟨hU, by show (mv_i σ 64 4 - 1 + 1).toInt = h8; rw [i32_inc (by omega)]; omega⟩⟩
  refine ⟨fun h1 => ?_, fun h1n309 => ?_⟩
  · skip
    have h1 : d = 309 := Int32.toInt_inj.mp (show d.toInt = (309 : Int32).toInt from h1)
    subst h1
    have o1 : 2 ≤ h9 := hO.1
    have o2 : h8 + 2 = h9 + 1 := hO.2.1
    have p1 := sub_one (x := mv_i σ 64 4) (by omega)
    have p2 := sub_one (x := mv_i σ 64 4 - 1) (by omega)
    refine mv_aload_n (pc := 256) B d_Machine_work_256 rfl 0 rfl ?_
    refine mv_callVl (pc := 257) (n := 0) (ci := 9) (C := R_Machine) B (mK_ok sk sv) hNs rfl rfl (c_Machine_pop_b l hi _ hR (show 1 ≤ (mv_i σ 64 4).toInt by omega) (show (mv_i σ 64 4).toInt ≤ 1024 by omega)) rfl (ma_goodc kc_Machine_pop) (B.2.2.2.1 _ k_1592) (B.2.2.2.1 _ k_1594) (B.2.2.2.1 _ ks_72) (B.2.2.2.1 _ k_11) ⟨by decide +kernel, by decide +kernel, by decide +kernel⟩ rfl d_Machine_work_257 rfl (Nat.le_of_ble_eq_true rfl) ⟨by decide, by decide⟩ ⟨by decide, by decide⟩ ⟨by decide, by decide⟩ (mv_noH hno _) (fun v257 σ257 h257 => ?_)
    subst h257
    refine mv_lstore (pc := 260) B d_Machine_work_260 (by decide) rfl ?_
    refine mv_aload_n (pc := 262) B d_Machine_work_262 rfl 1 rfl ?_
    refine mv_aload_n (pc := 263) B d_Machine_work_263 rfl 1 rfl ?_
    refine mv_callVl (pc := 264) (n := 0) (ci := 9) (C := R_Machine) B (mK_ok sk sv) hNs rfl rfl (c_Machine_pop_b l hi _ hR (show 1 ≤ (mv_i σ 64 4 - 1).toInt by omega) (show (mv_i σ 64 4 - 1).toInt ≤ 1024 by omega)) rfl (ma_goodc kc_Machine_pop) (B.2.2.2.1 _ k_1592) (B.2.2.2.1 _ k_1594) (B.2.2.2.1 _ ks_72) (B.2.2.2.1 _ k_11) ⟨by decide +kernel, by decide +kernel, by decide +kernel⟩ rfl d_Machine_work_264 rfl (Nat.le_of_ble_eq_true rfl) ⟨by decide, by decide⟩ ⟨by decide, by decide⟩ ⟨by decide, by decide⟩ (mv_noH hno _) (fun v264 σ264 h264 => ?_)
    subst h264
    refine mv_lload_n (pc := 267) B d_Machine_work_267 rfl 3 rfl ?_
    refine mv_l2i (pc := 268) B d_Machine_work_268 ?_
    refine mv_lshl (pc := 269) B d_Machine_work_269 ?_
    refine mv_lload (pc := 270) B d_Machine_work_270 0 rfl ?_
    refine mv_lor (pc := 272) B d_Machine_work_272 ?_
    refine mv_callVv (pc := 273) (n := 1) (ci := 9) (C := R_Machine) B (mK_ok sk sv) hNs rfl rfl (c_Machine_push_b l hi _ _ hR (show 0 ≤ (mv_i σ 64 4 - 1 - 1).toInt by omega) (show (mv_i σ 64 4 - 1 - 1).toInt < 1024 by omega)) rfl (ma_goodc kc_Machine_push) (B.2.2.2.1 _ k_1584) (B.2.2.2.1 _ k_1586) (B.2.2.2.1 _ ks_70) (B.2.2.2.1 _ k_11) ⟨by decide +kernel, by decide +kernel, by decide +kernel⟩ rfl d_Machine_work_273 rfl (Nat.le_of_ble_eq_true rfl) ⟨by decide, by decide⟩ ⟨by decide, by decide⟩ ⟨by decide, by decide⟩ (mv_noH hno _) (fun σ273 h273 => ?_)
    subst h273
    refine mv_goto (pc := 276) (tgt := 301) B d_Machine_work_276 rfl ?_
    exact mv_vret (pc := 301) B hr d_Machine_work_301 (Nat.le_refl _) (Nat.le_refl _) ⟨rfl, ((((MF0.si ⟨rfl, Or.inl rfl⟩).si ⟨rfl, Or.inl rfl⟩).sb (Or.inr (Or.inr (Or.inl rfl)))).si ⟨rfl, Or.inl rfl⟩), Or.inr ⟨hU, by show (mv_i σ 64 4 - 1 - 1 + 1).toInt = h8; rw [i32_inc (by omega)]; omega⟩⟩
  refine ⟨fun h1 => ?_, fun h1n310 => ?_⟩
  · skip
    have h1 : d = 310 := Int32.toInt_inj.mp (show d.toInt = (310 : Int32).toInt from h1)
    subst h1
    have o1 : 1 ≤ h9 := hO.1
    have o2 : h8 + 1 = h9 + 1 := hO.2.1
    have p1 := sub_one (x := mv_i σ 64 4) (by omega)
    refine mv_aload_n (pc := 227) B d_Machine_work_227 rfl 0 rfl ?_
    refine mv_aload_n (pc := 228) B d_Machine_work_228 rfl 0 rfl ?_
    refine mv_callVl (pc := 229) (n := 0) (ci := 9) (C := R_Machine) B (mK_ok sk sv) hNs rfl rfl (c_Machine_pop_b l hi _ hR (show 1 ≤ (mv_i σ 64 4).toInt by omega) (show (mv_i σ 64 4).toInt ≤ 1024 by omega)) rfl (ma_goodc kc_Machine_pop) (B.2.2.2.1 _ k_1592) (B.2.2.2.1 _ k_1594) (B.2.2.2.1 _ ks_72) (B.2.2.2.1 _ k_11) ⟨by decide +kernel, by decide +kernel, by decide +kernel⟩ rfl d_Machine_work_229 rfl (Nat.le_of_ble_eq_true rfl) ⟨by decide, by decide⟩ ⟨by decide, by decide⟩ ⟨by decide, by decide⟩ (mv_noH hno _) (fun v229 σ229 h229 => ?_)
    subst h229
    refine mv_lload_n (pc := 232) B d_Machine_work_232 rfl 2 rfl ?_
    refine mv_ldc2 (pc := 233) (v := 255) B (B.2.2.2.1 _ k_1610) d_Machine_work_233 ?_
    refine mv_land (pc := 236) B d_Machine_work_236 ?_
    refine mv_l2i (pc := 237) B d_Machine_work_237 ?_
    refine mv_callSl (pc := 238) (n := 2) B (mK_ok sk sv) hNs (c_Bits_signed l hi _ _ _) rfl (ma_goodc kc_Bits_signed) (B.2.2.2.1 _ k_1611) (B.2.2.2.1 _ k_1612) (B.2.2.2.1 _ k_33) ⟨by decide +kernel, by decide +kernel, by decide +kernel⟩ rfl d_Machine_work_238 rfl (Nat.le_of_ble_eq_true rfl) ⟨by decide, by decide⟩ ⟨by decide, by decide⟩ ⟨by decide, by decide⟩ (mv_noH hno _) (fun v238 σ238 h238 => ?_)
    subst h238
    refine mv_lload_n (pc := 241) B d_Machine_work_241 rfl 2 rfl ?_
    refine mv_bipush (pc := 242) (v := 8) B d_Machine_work_242 (by decide) ?_
    refine mv_lshr (pc := 244) B d_Machine_work_244 ?_
    refine mv_l2i (pc := 245) B d_Machine_work_245 ?_
    refine mv_callSl (pc := 246) (n := 1) B (mK_ok sk sv) hNs (c_Bits_mask l hi _ _) rfl (ma_goodc kc_Bits_mask) (B.2.2.2.1 _ k_1604) (B.2.2.2.1 _ k_1437) (B.2.2.2.1 _ k_33) ⟨by decide +kernel, by decide +kernel, by decide +kernel⟩ rfl d_Machine_work_246 rfl (Nat.le_of_ble_eq_true rfl) ⟨by decide, by decide⟩ ⟨by decide, by decide⟩ ⟨by decide, by decide⟩ (mv_noH hno _) (fun v246 σ246 h246 => ?_)
    subst h246
    refine mv_land (pc := 249) B d_Machine_work_249 ?_
    refine mv_callVv (pc := 250) (n := 1) (ci := 9) (C := R_Machine) B (mK_ok sk sv) hNs rfl rfl (c_Machine_push_b l hi _ _ hR (show 0 ≤ (mv_i σ 64 4 - 1).toInt by omega) (show (mv_i σ 64 4 - 1).toInt < 1024 by omega)) rfl (ma_goodc kc_Machine_push) (B.2.2.2.1 _ k_1584) (B.2.2.2.1 _ k_1586) (B.2.2.2.1 _ ks_70) (B.2.2.2.1 _ k_11) ⟨by decide +kernel, by decide +kernel, by decide +kernel⟩ rfl d_Machine_work_250 rfl (Nat.le_of_ble_eq_true rfl) ⟨by decide, by decide⟩ ⟨by decide, by decide⟩ ⟨by decide, by decide⟩ (mv_noH hno _) (fun σ250 h250 => ?_)
    subst h250
    refine mv_goto (pc := 253) (tgt := 301) B d_Machine_work_253 rfl ?_
    exact mv_vret (pc := 301) B hr d_Machine_work_301 (Nat.le_refl _) (Nat.le_refl _) ⟨rfl, (((MF0.si ⟨rfl, Or.inl rfl⟩).sb (Or.inr (Or.inr (Or.inl rfl)))).si ⟨rfl, Or.inl rfl⟩), Or.inr ⟨hU, by show (mv_i σ 64 4 - 1 + 1).toInt = h8; rw [i32_inc (by omega)]; omega⟩⟩
  refine ⟨fun h1 => ?_, fun h1n311 => ?_⟩
  · skip
    exact absurd (Int32.toInt_inj.mp (show d.toInt = (311 : Int32).toInt from h1)) hx.2.2.1
  refine ⟨fun h1 => ?_, fun h1n312 => ?_⟩
  · skip
    exact absurd (Int32.toInt_inj.mp (show d.toInt = (312 : Int32).toInt from h1)) hx.2.2.2
  refine ⟨fun h1 => ?_, fun h1n313 => ?_⟩
  · skip
    have h1 : d = 313 := Int32.toInt_inj.mp (show d.toInt = (313 : Int32).toInt from h1)
    subst h1
    have o1 : 1 ≤ h9 := hO.1
    have o2 : h8 + 1 = h9 + 0 := hO.2.1
    have o3 := hO.2.2.1 (by decide)
    have o4 := l2i_nn o3.1 (by omega)
    have p1 := sub_one (x := mv_i σ 64 4) (by omega)
    refine mv_aload_n (pc := 112) B d_Machine_work_112 rfl 0 rfl ?_
    refine mv_getR (pc := 113) (ci := 9) (C := R_Machine) (T := F_Machine) (N := 13) B 2 rfl rfl (by decide) i_Machine (B.2.2.2.1 _ k_444) rfl (hR.1 _ 2 _ rfl) d_Machine_work_113 ?_
    refine mv_lload_n (pc := 116) B d_Machine_work_116 rfl 2 rfl ?_
    refine mv_l2i (pc := 117) B d_Machine_work_117 ?_
    refine mv_aload_n (pc := 118) B d_Machine_work_118 rfl 0 rfl ?_
    refine mv_callVl (pc := 119) (n := 0) (ci := 9) (C := R_Machine) B (mK_ok sk sv) hNs rfl rfl (c_Machine_pop_b l hi _ hR (show 1 ≤ (mv_i σ 64 4).toInt by omega) (show (mv_i σ 64 4).toInt ≤ 1024 by omega)) rfl (ma_goodc kc_Machine_pop) (B.2.2.2.1 _ k_1592) (B.2.2.2.1 _ k_1594) (B.2.2.2.1 _ ks_72) (B.2.2.2.1 _ k_11) ⟨by decide +kernel, by decide +kernel, by decide +kernel⟩ rfl d_Machine_work_119 rfl (Nat.le_of_ble_eq_true rfl) ⟨by decide, by decide⟩ ⟨by decide, by decide⟩ ⟨by decide, by decide⟩ (mv_noH hno _) (fun v119 σ119 h119 => ?_)
    subst h119
    refine mv_last (pc := 122) B rfl (i32_in (by omega) (by omega)) d_Machine_work_122 ?_
    refine mv_goto (pc := 123) (tgt := 301) B d_Machine_work_123 rfl ?_
    exact mv_vret (pc := 301) B hr d_Machine_work_301 (Nat.le_refl _) (Nat.le_refl _) ⟨rfl, (MF0.si ⟨rfl, Or.inl rfl⟩).sb (Or.inr (Or.inl rfl)), Or.inr ⟨hU, by show (mv_i σ 64 4 - 1).toInt = h8; omega⟩⟩
  refine ⟨fun h1 => ?_, fun h1n314 => ?_⟩
  · skip
    have h1 : d = 314 := Int32.toInt_inj.mp (show d.toInt = (314 : Int32).toInt from h1)
    subst h1
    have o1 : 1 ≤ h9 := hO.1
    have o2 : h8 + 1 = h9 + 0 := hO.2.1
    have o3 := hO.2.2.2.2 (by decide)
    have ht64 := hT.2.1
    have o4 := l2i_nn o3.1 (by omega)
    obtain ⟨c9, f9, hc9, hf9, hs1, hs2⟩ := hT.2.2.2.2.2.2.1 w.toInt.toNat (by omega)
    have hf9 : (mv_a σ 51 w.toInt.toNat).toInt = f9 := hf9
    have o5 : w.toInt32.toInt = w.toInt.toNat := by rw [o4]; omega
    have hsl := hT.2.2.2.1
    have hu9 := hu rfl
    have i1 : 0 ≤ (mv_a σ 51 w.toInt.toNat).toInt := by omega
    have i2 : (mv_a σ 51 w.toInt.toNat).toInt + (0 : Int32).toInt < 65600 := by show (mv_a σ 51 w.toInt.toNat).toInt + 0 < 65600; omega
    have p1 := sub_one (x := mv_i σ 64 4) (by omega)
    refine mv_aload_n (pc := 126) B d_Machine_work_126 rfl 0 rfl ?_
    refine mv_aload_n (pc := 127) B d_Machine_work_127 rfl 0 rfl ?_
    refine mv_getI (pc := 128) (ci := 9) (C := R_Machine) (T := F_Machine) (N := 13) B 8 rfl rfl (by decide) i_Machine (B.2.2.2.1 _ k_450) rfl d_Machine_work_128 ?_
    refine mv_if_ne (pc := 131) (tgt := 147) B d_Machine_work_131 rfl (fun h131 => ?_) (fun h131 => ?_)
    · skip
      refine mv_iconst (pc := 147) (v := 1) B d_Machine_work_147 (by decide) ?_
      refine mv_goto (pc := 148) (tgt := 152) B d_Machine_work_148 rfl ?_
      refine mv_putI (pc := 152) (ci := 9) (C := R_Machine) (T := F_Machine) (N := 13) B 8 rfl rfl (by decide) i_Machine t_Machine_ok n_Machine (B.2.2.2.1 _ k_450) rfl rfl (by first | rfl | decide) rfl d_Machine_work_152 ?_
      refine mv_aload_n (pc := 155) B d_Machine_work_155 rfl 0 rfl ?_
      refine mv_lload_n (pc := 156) B d_Machine_work_156 rfl 2 rfl ?_
      refine mv_l2i (pc := 157) B d_Machine_work_157 ?_
      refine mv_iconst (pc := 158) (v := 0) B d_Machine_work_158 (by decide) ?_
      refine mv_aload_n (pc := 159) B d_Machine_work_159 rfl 0 rfl ?_
      refine mv_callVl (pc := 160) (n := 0) (ci := 9) (C := R_Machine) B (mK_ok sk sv) hNs rfl rfl (c_Machine_pop_b l hi _ hR (show 1 ≤ (mv_i σ 64 4).toInt by omega) (show (mv_i σ 64 4).toInt ≤ 1024 by omega)) rfl (ma_goodc kc_Machine_pop) (B.2.2.2.1 _ k_1592) (B.2.2.2.1 _ k_1594) (B.2.2.2.1 _ ks_72) (B.2.2.2.1 _ k_11) ⟨by decide +kernel, by decide +kernel, by decide +kernel⟩ rfl d_Machine_work_160 rfl (Nat.le_of_ble_eq_true rfl) ⟨by decide, by decide⟩ ⟨by decide, by decide⟩ ⟨by decide, by decide⟩ (mv_noH hno _) (fun v160 σ160 h160 => ?_)
      subst h160
      refine mv_gen (fun S eS => ?_)
      have sR : Rf 48 (mv_r S) := by rw [eS]; exact hR
      have sT : Th 48 S th sl := by rw [eS]; exact hT
      have sU : Un S u := by rw [eS]; exact hU
      have sF : MF σ S := by rw [eS]; exact (MF0.si ⟨rfl, Or.inr (Or.inr rfl)⟩).si ⟨rfl, Or.inl rfl⟩
      have s4 : (mv_i S 64 4).toInt = h8 := by rw [eS]; show (mv_i σ 64 4 - 1).toInt = h8; omega
      have i1 : 0 ≤ (mv_a S 51 w.toInt.toNat).toInt := by rw [eS]; exact i1
      have i2 : (mv_a S 51 w.toInt.toNat).toInt + (0 : Int32).toInt < 65600 := by rw [eS]; exact i2
      clear eS
      refine mv_callVv (pc := 163) (n := 3) (ci := 9) (C := R_Machine) B (mK_ok sk sv) hNs rfl rfl (c_Machine_assign_b l hi _ _ _ _ sR th sl sT w.toInt.toNat o5 (by omega) (by decide) i1 i2 u sU hu9) rfl (ma_goodc kc_Machine_assign) (B.2.2.2.1 _ k_1596) (B.2.2.2.1 _ k_1598) (B.2.2.2.1 _ ks_73) (B.2.2.2.1 _ k_11) ⟨by decide +kernel, by decide +kernel, by decide +kernel⟩ rfl d_Machine_work_163 rfl (Nat.le_of_ble_eq_true rfl) ⟨by decide, by decide⟩ ⟨by decide, by decide⟩ ⟨by decide, by decide⟩ (mv_noH hno _) (fun σ163 h163 => ?_)
      obtain ⟨f163, u163, t163⟩ := h163
      refine mv_goto (pc := 166) (tgt := 301) B d_Machine_work_166 rfl ?_
      exact mv_vret (pc := 301) B hr d_Machine_work_301 (Nat.le_refl _) (Nat.le_refl _) ⟨rfl, sF.tr f163, Or.inl ⟨rfl, u163, by rw [t163]; exact s4⟩⟩
    · skip
      refine mv_lload_n (pc := 134) B d_Machine_work_134 rfl 2 rfl ?_
      refine mv_aload_n (pc := 135) B d_Machine_work_135 rfl 0 rfl ?_
      refine mv_getR (pc := 136) (ci := 9) (C := R_Machine) (T := F_Machine) (N := 13) B 0 rfl rfl (by decide) i_Machine (B.2.2.2.1 _ k_440) rfl hR.2.2 d_Machine_work_136 ?_
      refine mv_getI (pc := 139) (ci := 7) (C := R_Program) (T := F_Program) (N := 19) B 8 rfl rfl (by decide) i_Program (B.2.2.2.1 _ k_338) rfl d_Machine_work_139 ?_
      refine mv_i2l (pc := 142) B d_Machine_work_142 ?_
      refine mv_lcmp (pc := 143) B d_Machine_work_143 ?_
      refine mv_if_ne (pc := 144) (tgt := 151) B d_Machine_work_144 rfl (fun h144 => ?_) (fun h144 => ?_)
      · skip
        refine mv_iconst (pc := 151) (v := 0) B d_Machine_work_151 (by decide) ?_
        refine mv_putI (pc := 152) (ci := 9) (C := R_Machine) (T := F_Machine) (N := 13) B 8 rfl rfl (by decide) i_Machine t_Machine_ok n_Machine (B.2.2.2.1 _ k_450) rfl rfl (by first | rfl | decide) rfl d_Machine_work_152 ?_
        refine mv_aload_n (pc := 155) B d_Machine_work_155 rfl 0 rfl ?_
        refine mv_lload_n (pc := 156) B d_Machine_work_156 rfl 2 rfl ?_
        refine mv_l2i (pc := 157) B d_Machine_work_157 ?_
        refine mv_iconst (pc := 158) (v := 0) B d_Machine_work_158 (by decide) ?_
        refine mv_aload_n (pc := 159) B d_Machine_work_159 rfl 0 rfl ?_
        refine mv_callVl (pc := 160) (n := 0) (ci := 9) (C := R_Machine) B (mK_ok sk sv) hNs rfl rfl (c_Machine_pop_b l hi _ hR (show 1 ≤ (mv_i σ 64 4).toInt by omega) (show (mv_i σ 64 4).toInt ≤ 1024 by omega)) rfl (ma_goodc kc_Machine_pop) (B.2.2.2.1 _ k_1592) (B.2.2.2.1 _ k_1594) (B.2.2.2.1 _ ks_72) (B.2.2.2.1 _ k_11) ⟨by decide +kernel, by decide +kernel, by decide +kernel⟩ rfl d_Machine_work_160 rfl (Nat.le_of_ble_eq_true rfl) ⟨by decide, by decide⟩ ⟨by decide, by decide⟩ ⟨by decide, by decide⟩ (mv_noH hno _) (fun v160 σ160 h160 => ?_)
        subst h160
        refine mv_gen (fun S eS => ?_)
        have sR : Rf 48 (mv_r S) := by rw [eS]; exact hR
        have sT : Th 48 S th sl := by rw [eS]; exact hT
        have sU : Un S u := by rw [eS]; exact hU
        have sF : MF σ S := by rw [eS]; exact (MF0.si ⟨rfl, Or.inr (Or.inr rfl)⟩).si ⟨rfl, Or.inl rfl⟩
        have s4 : (mv_i S 64 4).toInt = h8 := by rw [eS]; show (mv_i σ 64 4 - 1).toInt = h8; omega
        have i1 : 0 ≤ (mv_a S 51 w.toInt.toNat).toInt := by rw [eS]; exact i1
        have i2 : (mv_a S 51 w.toInt.toNat).toInt + (0 : Int32).toInt < 65600 := by rw [eS]; exact i2
        clear eS
        refine mv_callVv (pc := 163) (n := 3) (ci := 9) (C := R_Machine) B (mK_ok sk sv) hNs rfl rfl (c_Machine_assign_b l hi _ _ _ _ sR th sl sT w.toInt.toNat o5 (by omega) (by decide) i1 i2 u sU hu9) rfl (ma_goodc kc_Machine_assign) (B.2.2.2.1 _ k_1596) (B.2.2.2.1 _ k_1598) (B.2.2.2.1 _ ks_73) (B.2.2.2.1 _ k_11) ⟨by decide +kernel, by decide +kernel, by decide +kernel⟩ rfl d_Machine_work_163 rfl (Nat.le_of_ble_eq_true rfl) ⟨by decide, by decide⟩ ⟨by decide, by decide⟩ ⟨by decide, by decide⟩ (mv_noH hno _) (fun σ163 h163 => ?_)
        obtain ⟨f163, u163, t163⟩ := h163
        refine mv_goto (pc := 166) (tgt := 301) B d_Machine_work_166 rfl ?_
        exact mv_vret (pc := 301) B hr d_Machine_work_301 (Nat.le_refl _) (Nat.le_refl _) ⟨rfl, sF.tr f163, Or.inl ⟨rfl, u163, by rw [t163]; exact s4⟩⟩
      · skip
        refine mv_iconst (pc := 147) (v := 1) B d_Machine_work_147 (by decide) ?_
        refine mv_goto (pc := 148) (tgt := 152) B d_Machine_work_148 rfl ?_
        refine mv_putI (pc := 152) (ci := 9) (C := R_Machine) (T := F_Machine) (N := 13) B 8 rfl rfl (by decide) i_Machine t_Machine_ok n_Machine (B.2.2.2.1 _ k_450) rfl rfl (by first | rfl | decide) rfl d_Machine_work_152 ?_
        refine mv_aload_n (pc := 155) B d_Machine_work_155 rfl 0 rfl ?_
        refine mv_lload_n (pc := 156) B d_Machine_work_156 rfl 2 rfl ?_
        refine mv_l2i (pc := 157) B d_Machine_work_157 ?_
        refine mv_iconst (pc := 158) (v := 0) B d_Machine_work_158 (by decide) ?_
        refine mv_aload_n (pc := 159) B d_Machine_work_159 rfl 0 rfl ?_
        refine mv_callVl (pc := 160) (n := 0) (ci := 9) (C := R_Machine) B (mK_ok sk sv) hNs rfl rfl (c_Machine_pop_b l hi _ hR (show 1 ≤ (mv_i σ 64 4).toInt by omega) (show (mv_i σ 64 4).toInt ≤ 1024 by omega)) rfl (ma_goodc kc_Machine_pop) (B.2.2.2.1 _ k_1592) (B.2.2.2.1 _ k_1594) (B.2.2.2.1 _ ks_72) (B.2.2.2.1 _ k_11) ⟨by decide +kernel, by decide +kernel, by decide +kernel⟩ rfl d_Machine_work_160 rfl (Nat.le_of_ble_eq_true rfl) ⟨by decide, by decide⟩ ⟨by decide, by decide⟩ ⟨by decide, by decide⟩ (mv_noH hno _) (fun v160 σ160 h160 => ?_)
        subst h160
        refine mv_gen (fun S eS => ?_)
        have sR : Rf 48 (mv_r S) := by rw [eS]; exact hR
        have sT : Th 48 S th sl := by rw [eS]; exact hT
        have sU : Un S u := by rw [eS]; exact hU
        have sF : MF σ S := by rw [eS]; exact (MF0.si ⟨rfl, Or.inr (Or.inr rfl)⟩).si ⟨rfl, Or.inl rfl⟩
        have s4 : (mv_i S 64 4).toInt = h8 := by rw [eS]; show (mv_i σ 64 4 - 1).toInt = h8; omega
        have i1 : 0 ≤ (mv_a S 51 w.toInt.toNat).toInt := by rw [eS]; exact i1
        have i2 : (mv_a S 51 w.toInt.toNat).toInt + (0 : Int32).toInt < 65600 := by rw [eS]; exact i2
        clear eS
        refine mv_callVv (pc := 163) (n := 3) (ci := 9) (C := R_Machine) B (mK_ok sk sv) hNs rfl rfl (c_Machine_assign_b l hi _ _ _ _ sR th sl sT w.toInt.toNat o5 (by omega) (by decide) i1 i2 u sU hu9) rfl (ma_goodc kc_Machine_assign) (B.2.2.2.1 _ k_1596) (B.2.2.2.1 _ k_1598) (B.2.2.2.1 _ ks_73) (B.2.2.2.1 _ k_11) ⟨by decide +kernel, by decide +kernel, by decide +kernel⟩ rfl d_Machine_work_163 rfl (Nat.le_of_ble_eq_true rfl) ⟨by decide, by decide⟩ ⟨by decide, by decide⟩ ⟨by decide, by decide⟩ (mv_noH hno _) (fun σ163 h163 => ?_)
        obtain ⟨f163, u163, t163⟩ := h163
        refine mv_goto (pc := 166) (tgt := 301) B d_Machine_work_166 rfl ?_
        exact mv_vret (pc := 301) B hr d_Machine_work_301 (Nat.le_refl _) (Nat.le_refl _) ⟨rfl, sF.tr f163, Or.inl ⟨rfl, u163, by rw [t163]; exact s4⟩⟩
  show mv_V _ _ _ _ _ _ _ _ _ _ _ _ _ _ _ _ 279 _ _
  have n300 : ¬ d = 300 := fun q => h1n300 (by rw [q]; rfl)
  have n301 : ¬ d = 301 := fun q => h1n301 (by rw [q]; rfl)
  have n302 : ¬ d = 302 := fun q => h1n302 (by rw [q]; rfl)
  have n303 : ¬ d = 303 := fun q => h1n303 (by rw [q]; rfl)
  have n304 : ¬ d = 304 := fun q => h1n304 (by rw [q]; rfl)
  have n305 : ¬ d = 305 := fun q => h1n305 (by rw [q]; rfl)
  have n306 : ¬ d = 306 := fun q => h1n306 (by rw [q]; rfl)
  have n307 : ¬ d = 307 := fun q => h1n307 (by rw [q]; rfl)
  have n308 : ¬ d = 308 := fun q => h1n308 (by rw [q]; rfl)
  have n309 : ¬ d = 309 := fun q => h1n309 (by rw [q]; rfl)
  have n310 : ¬ d = 310 := fun q => h1n310 (by rw [q]; rfl)
  have n311 : ¬ d = 311 := fun q => h1n311 (by rw [q]; rfl)
  have n312 : ¬ d = 312 := fun q => h1n312 (by rw [q]; rfl)
  have n313 : ¬ d = 313 := fun q => h1n313 (by rw [q]; rfl)
  have n314 : ¬ d = 314 := fun q => h1n314 (by rw [q]; rfl)
  have o0 : opd d = (2, 1) := by
    unfold opd
    rw [if_neg (by rintro (q | q | q | q) <;> contradiction), if_neg (by rintro (q | q | q | q | q | q) <;> contradiction), if_neg (by rintro (q | q) <;> contradiction), if_neg hx5]
  have o1 : 2 ≤ h9 := by have := hO.1; rw [o0] at this; exact this
  have o2 : h8 + 2 = h9 + 1 := by have := hO.2.1; rw [o0] at this; exact this
  have p1 := sub_one (x := mv_i σ 64 4) (by omega)
  have p2 := sub_one (x := mv_i σ 64 4 - 1) (by omega)
  refine mv_aload_n (pc := 279) B d_Machine_work_279 rfl 0 rfl ?_
  refine mv_callVl (pc := 280) (n := 0) (ci := 9) (C := R_Machine) B (mK_ok sk sv) hNs rfl rfl (c_Machine_pop_b l hi _ hR (show 1 ≤ (mv_i σ 64 4).toInt by omega) (show (mv_i σ 64 4).toInt ≤ 1024 by omega)) rfl (ma_goodc kc_Machine_pop) (B.2.2.2.1 _ k_1592) (B.2.2.2.1 _ k_1594) (B.2.2.2.1 _ ks_72) (B.2.2.2.1 _ k_11) ⟨by decide +kernel, by decide +kernel, by decide +kernel⟩ rfl d_Machine_work_280 rfl (Nat.le_of_ble_eq_true rfl) ⟨by decide, by decide⟩ ⟨by decide, by decide⟩ ⟨by decide, by decide⟩ (mv_noH hno _) (fun v280 σ280 h280 => ?_)
  subst h280
  refine mv_lstore (pc := 283) B d_Machine_work_283 (by decide) rfl ?_
  refine mv_aload_n (pc := 285) B d_Machine_work_285 rfl 1 rfl ?_
  refine mv_iload_n (pc := 286) B d_Machine_work_286 rfl 2 rfl ?_
  refine mv_aload_n (pc := 287) B d_Machine_work_287 rfl 1 rfl ?_
  refine mv_callVl (pc := 288) (n := 0) (ci := 9) (C := R_Machine) B (mK_ok sk sv) hNs rfl rfl (c_Machine_pop_b l hi _ hR (show 1 ≤ (mv_i σ 64 4 - 1).toInt by omega) (show (mv_i σ 64 4 - 1).toInt ≤ 1024 by omega)) rfl (ma_goodc kc_Machine_pop) (B.2.2.2.1 _ k_1592) (B.2.2.2.1 _ k_1594) (B.2.2.2.1 _ ks_72) (B.2.2.2.1 _ k_11) ⟨by decide +kernel, by decide +kernel, by decide +kernel⟩ rfl d_Machine_work_288 rfl (Nat.le_of_ble_eq_true rfl) ⟨by decide, by decide⟩ ⟨by decide, by decide⟩ ⟨by decide, by decide⟩ (mv_noH hno _) (fun v288 σ288 h288 => ?_)
  subst h288
  refine mv_lload (pc := 291) B d_Machine_work_291 0 rfl ?_
  refine mv_lload_n (pc := 293) B d_Machine_work_293 rfl 3 rfl ?_
  refine mv_l2i (pc := 294) B d_Machine_work_294 ?_
  refine mv_callSl (pc := 295) (n := 4) B (mK_ok sk sv) hNs (c_Bits_ofTwo l hi _ _ _ _ _) rfl (ma_goodc kc_Bits_ofTwo) (B.2.2.2.1 _ k_1614) (B.2.2.2.1 _ k_1615) (B.2.2.2.1 _ k_33) ⟨by decide +kernel, by decide +kernel, by decide +kernel⟩ rfl d_Machine_work_295 rfl (Nat.le_of_ble_eq_true rfl) ⟨by decide, by decide⟩ ⟨by decide, by decide⟩ ⟨by decide, by decide⟩ (mv_noH hno _) (fun v295 σ295 h295 => ?_)
  subst h295
  refine mv_callVv (pc := 298) (n := 1) (ci := 9) (C := R_Machine) B (mK_ok sk sv) hNs rfl rfl (c_Machine_push_b l hi _ _ hR (show 0 ≤ (mv_i σ 64 4 - 1 - 1).toInt by omega) (show (mv_i σ 64 4 - 1 - 1).toInt < 1024 by omega)) rfl (ma_goodc kc_Machine_push) (B.2.2.2.1 _ k_1584) (B.2.2.2.1 _ k_1586) (B.2.2.2.1 _ ks_70) (B.2.2.2.1 _ k_11) ⟨by decide +kernel, by decide +kernel, by decide +kernel⟩ rfl d_Machine_work_298 rfl (Nat.le_of_ble_eq_true rfl) ⟨by decide, by decide⟩ ⟨by decide, by decide⟩ ⟨by decide, by decide⟩ (mv_noH hno _) (fun σ298 h298 => ?_)
  subst h298
  exact mv_vret (pc := 301) B hr d_Machine_work_301 (Nat.le_refl _) (Nat.le_refl _) ⟨rfl, ((((MF0.si ⟨rfl, Or.inl rfl⟩).si ⟨rfl, Or.inl rfl⟩).sb (Or.inr (Or.inr (Or.inl rfl)))).si ⟨rfl, Or.inl rfl⟩), Or.inr ⟨hU, by show (mv_i σ 64 4 - 1 - 1 + 1).toInt = h8; rw [i32_inc (by omega)]; omega⟩⟩
set_option maxHeartbeats 4000000 in
set_option maxRecDepth 100000 in
theorem c_Machine_work_c (l : Launch) {dA : FieldType → ClassId} {D : va_G} {al : Nat → Nat} {sk sv : Nat → Nat} (hi : mv_inj (mg dA D al me)) (σ : mv_H) (d : Int32) (w : Int64) (hR : Rf 145 (mv_r σ)) (th sl : Nat) (hT : Th 145 σ th sl) (h9 h8 : Nat) (hh : (mv_i σ 64 4).toInt = h9) (hh1 : h9 ≤ 1024) (hh2 : h8 ≤ 1024) (hO : Op1 th d w h9 h8) (hx : ¬ d = 301 ∧ ¬ d = 304 ∧ ¬ d = 311 ∧ ¬ d = 312) (hx5 : ¬ d = 315) (u : Nat) (hU : Un σ u) (hu : d = 314 → u < 8193) : mv_C l y_Machine_work (Cond.code y_Machine_work b_Machine_work 8 (Option.none : Option Jvm.ClassFile.FieldType) :: ma) ({ frames := 3, cells := 0, slots := 0, locals := 74 }) (mg dA D al me) (mK sk sv) [.ref (al 64), .int d, .long w] σ (mv_Rv (fun σ1 => MF σ σ1 ∧ ((d = 314 ∧ Un σ1 (u + 1) ∧ (mv_i σ1 64 4).toInt = h8) ∨ (Un σ1 u ∧ (mv_i σ1 64 4).toInt = h8)))) := by
  refine mv_C.ofV (cc := b_Machine_work) (nL := 8) (ret := (Option.none : Option Jvm.ClassFile.FieldType)) (by decide +kernel) rfl hi (Nat.le_of_ble_eq_true rfl) ?_
  intro p e s m below meth c B hNs hr hnm hno
  refine mv_iload_n (pc := 0) B d_Machine_work_0 rfl 1 rfl ?_
  refine mv_tsw (pc := 1) B d_Machine_work_1 (by decide) (by decide) ?_
  refine ⟨fun h1 => ?_, fun h1n300 => ?_⟩
  · skip
    have h1 : d = 300 := Int32.toInt_inj.mp (show d.toInt = (300 : Int32).toInt from h1)
    subst h1
    have o1 : 0 ≤ h9 := hO.1
    have o2 : h8 + 0 = h9 + 1 := hO.2.1
    refine mv_aload_n (pc := 76) B d_Machine_work_76 rfl 0 rfl ?_
    refine mv_lload_n (pc := 77) B d_Machine_work_77 rfl 2 rfl ?_
    refine mv_callVv (pc := 78) (n := 1) (ci := 9) (C := R_Machine) B (mK_ok sk sv) hNs rfl rfl (c_Machine_push_c l hi _ _ hR (by omega) (by omega)) rfl (ma_goodc kc_Machine_push) (B.2.2.2.1 _ k_1584) (B.2.2.2.1 _ k_1586) (B.2.2.2.1 _ ks_70) (B.2.2.2.1 _ k_11) ⟨by decide +kernel, by decide +kernel, by decide +kernel⟩ rfl d_Machine_work_78 rfl (Nat.le_of_ble_eq_true rfl) ⟨by decide, by decide⟩ ⟨by decide, by decide⟩ ⟨by decide, by decide⟩ (mv_noH hno _) (fun σ78 h78 => ?_)
    subst h78
    refine mv_goto (pc := 81) (tgt := 301) B d_Machine_work_81 rfl ?_
    exact mv_vret (pc := 301) B hr d_Machine_work_301 (Nat.le_refl _) (Nat.le_refl _) ⟨rfl, ((MF0.sb (Or.inr (Or.inr (Or.inl rfl)))).si ⟨rfl, Or.inl rfl⟩), Or.inr ⟨hU, by show (mv_i σ 64 4 + 1).toInt = h8; rw [i32_inc (by omega)]; omega⟩⟩
  refine ⟨fun h1 => ?_, fun h1n301 => ?_⟩
  · skip
    exact absurd (Int32.toInt_inj.mp (show d.toInt = (301 : Int32).toInt from h1)) hx.1
  refine ⟨fun h1 => ?_, fun h1n302 => ?_⟩
  · skip
    have h1 : d = 302 := Int32.toInt_inj.mp (show d.toInt = (302 : Int32).toInt from h1)
    subst h1
    have o1 : 0 ≤ h9 := hO.1
    have o2 : h8 + 0 = h9 + 1 := hO.2.1
    have o3 := hO.2.2.1 (by decide)
    have o4 := l2i_nn o3.1 (by omega)
    refine mv_aload_n (pc := 84) B d_Machine_work_84 rfl 0 rfl ?_
    refine mv_aload_n (pc := 85) B d_Machine_work_85 rfl 0 rfl ?_
    refine mv_getR (pc := 86) (ci := 9) (C := R_Machine) (T := F_Machine) (N := 13) B 2 rfl rfl (by decide) i_Machine (B.2.2.2.1 _ k_444) rfl (hR.1 _ 2 _ rfl) d_Machine_work_86 ?_
    refine mv_lload_n (pc := 89) B d_Machine_work_89 rfl 2 rfl ?_
    refine mv_l2i (pc := 90) B d_Machine_work_90 ?_
    refine mv_lald (pc := 91) B rfl (i32_in (by omega) (by omega)) d_Machine_work_91 ?_
    refine mv_callVv (pc := 92) (n := 1) (ci := 9) (C := R_Machine) B (mK_ok sk sv) hNs rfl rfl (c_Machine_push_c l hi _ _ hR (by omega) (by omega)) rfl (ma_goodc kc_Machine_push) (B.2.2.2.1 _ k_1584) (B.2.2.2.1 _ k_1586) (B.2.2.2.1 _ ks_70) (B.2.2.2.1 _ k_11) ⟨by decide +kernel, by decide +kernel, by decide +kernel⟩ rfl d_Machine_work_92 rfl (Nat.le_of_ble_eq_true rfl) ⟨by decide, by decide⟩ ⟨by decide, by decide⟩ ⟨by decide, by decide⟩ (mv_noH hno _) (fun σ92 h92 => ?_)
    subst h92
    refine mv_goto (pc := 95) (tgt := 301) B d_Machine_work_95 rfl ?_
    exact mv_vret (pc := 301) B hr d_Machine_work_301 (Nat.le_refl _) (Nat.le_refl _) ⟨rfl, ((MF0.sb (Or.inr (Or.inr (Or.inl rfl)))).si ⟨rfl, Or.inl rfl⟩), Or.inr ⟨hU, by show (mv_i σ 64 4 + 1).toInt = h8; rw [i32_inc (by omega)]; omega⟩⟩
  refine ⟨fun h1 => ?_, fun h1n303 => ?_⟩
  · skip
    have h1 : d = 303 := Int32.toInt_inj.mp (show d.toInt = (303 : Int32).toInt from h1)
    subst h1
    have o1 : 0 ≤ h9 := hO.1
    have o2 : h8 + 0 = h9 + 1 := hO.2.1
    have o3 := hO.2.2.2.1 rfl
    have o4 := l2i_nn o3.1 (by omega)
    refine mv_aload_n (pc := 98) B d_Machine_work_98 rfl 0 rfl ?_
    refine mv_aload_n (pc := 99) B d_Machine_work_99 rfl 0 rfl ?_
    refine mv_getR (pc := 100) (ci := 9) (C := R_Machine) (T := F_Machine) (N := 13) B 1 rfl rfl (by decide) i_Machine (B.2.2.2.1 _ k_442) rfl (hR.1 _ 1 _ rfl) d_Machine_work_100 ?_
    refine mv_lload_n (pc := 103) B d_Machine_work_103 rfl 2 rfl ?_
    refine mv_l2i (pc := 104) B d_Machine_work_104 ?_
    refine mv_lald (pc := 105) B rfl (i32_in (by omega) (by omega)) d_Machine_work_105 ?_
    refine mv_callVv (pc := 106) (n := 1) (ci := 9) (C := R_Machine) B (mK_ok sk sv) hNs rfl rfl (c_Machine_push_c l hi _ _ hR (by omega) (by omega)) rfl (ma_goodc kc_Machine_push) (B.2.2.2.1 _ k_1584) (B.2.2.2.1 _ k_1586) (B.2.2.2.1 _ ks_70) (B.2.2.2.1 _ k_11) ⟨by decide +kernel, by decide +kernel, by decide +kernel⟩ rfl d_Machine_work_106 rfl (Nat.le_of_ble_eq_true rfl) ⟨by decide, by decide⟩ ⟨by decide, by decide⟩ ⟨by decide, by decide⟩ (mv_noH hno _) (fun σ106 h106 => ?_)
    subst h106
    refine mv_goto (pc := 109) (tgt := 301) B d_Machine_work_109 rfl ?_
    exact mv_vret (pc := 301) B hr d_Machine_work_301 (Nat.le_refl _) (Nat.le_refl _) ⟨rfl, ((MF0.sb (Or.inr (Or.inr (Or.inl rfl)))).si ⟨rfl, Or.inl rfl⟩), Or.inr ⟨hU, by show (mv_i σ 64 4 + 1).toInt = h8; rw [i32_inc (by omega)]; omega⟩⟩
  refine ⟨fun h1 => ?_, fun h1n304 => ?_⟩
  · skip
    exact absurd (Int32.toInt_inj.mp (show d.toInt = (304 : Int32).toInt from h1)) hx.2.1
  refine ⟨fun h1 => ?_, fun h1n305 => ?_⟩
  · skip
    have h1 : d = 305 := Int32.toInt_inj.mp (show d.toInt = (305 : Int32).toInt from h1)
    subst h1
    have o1 : 1 ≤ h9 := hO.1
    have o2 : h8 + 1 = h9 + 1 := hO.2.1
    have p1 := sub_one (x := mv_i σ 64 4) (by omega)
    refine mv_aload_n (pc := 169) B d_Machine_work_169 rfl 0 rfl ?_
    refine mv_aload_n (pc := 170) B d_Machine_work_170 rfl 0 rfl ?_
    refine mv_callVl (pc := 171) (n := 0) (ci := 9) (C := R_Machine) B (mK_ok sk sv) hNs rfl rfl (c_Machine_pop_c l hi _ hR (show 1 ≤ (mv_i σ 64 4).toInt by omega) (show (mv_i σ 64 4).toInt ≤ 1024 by omega)) rfl (ma_goodc kc_Machine_pop) (B.2.2.2.1 _ k_1592) (B.2.2.2.1 _ k_1594) (B.2.2.2.1 _ ks_72) (B.2.2.2.1 _ k_11) ⟨by decide +kernel, by decide +kernel, by decide +kernel⟩ rfl d_Machine_work_171 rfl (Nat.le_of_ble_eq_true rfl) ⟨by decide, by decide⟩ ⟨by decide, by decide⟩ ⟨by decide, by decide⟩ (mv_noH hno _) (fun v171 σ171 h171 => ?_)
    subst h171
    refine mv_lneg (pc := 174) B d_Machine_work_174 ?_
    refine mv_lload_n (pc := 175) B d_Machine_work_175 rfl 2 rfl ?_
    refine mv_land (pc := 176) B d_Machine_work_176 ?_
    refine mv_callVv (pc := 177) (n := 1) (ci := 9) (C := R_Machine) B (mK_ok sk sv) hNs rfl rfl (c_Machine_push_c l hi _ _ hR (show 0 ≤ (mv_i σ 64 4 - 1).toInt by omega) (show (mv_i σ 64 4 - 1).toInt < 1024 by omega)) rfl (ma_goodc kc_Machine_push) (B.2.2.2.1 _ k_1584) (B.2.2.2.1 _ k_1586) (B.2.2.2.1 _ ks_70) (B.2.2.2.1 _ k_11) ⟨by decide +kernel, by decide +kernel, by decide +kernel⟩ rfl d_Machine_work_177 rfl (Nat.le_of_ble_eq_true rfl) ⟨by decide, by decide⟩ ⟨by decide, by decide⟩ ⟨by decide, by decide⟩ (mv_noH hno _) (fun σ177 h177 => ?_)
    subst h177
    refine mv_goto (pc := 180) (tgt := 301) B d_Machine_work_180 rfl ?_
    exact mv_vret (pc := 301) B hr d_Machine_work_301 (Nat.le_refl _) (Nat.le_refl _) ⟨rfl, (((MF0.si ⟨rfl, Or.inl rfl⟩).sb (Or.inr (Or.inr (Or.inl rfl)))).si ⟨rfl, Or.inl rfl⟩), Or.inr ⟨hU, by show (mv_i σ 64 4 - 1 + 1).toInt = h8; rw [i32_inc (by omega)]; omega⟩⟩
  refine ⟨fun h1 => ?_, fun h1n306 => ?_⟩
  · skip
    have h1 : d = 306 := Int32.toInt_inj.mp (show d.toInt = (306 : Int32).toInt from h1)
    subst h1
    have o1 : 1 ≤ h9 := hO.1
    have o2 : h8 + 1 = h9 + 1 := hO.2.1
    have p1 := sub_one (x := mv_i σ 64 4) (by omega)
    refine mv_aload_n (pc := 183) B d_Machine_work_183 rfl 0 rfl ?_
    refine mv_aload_n (pc := 184) B d_Machine_work_184 rfl 0 rfl ?_
    refine mv_callVl (pc := 185) (n := 0) (ci := 9) (C := R_Machine) B (mK_ok sk sv) hNs rfl rfl (c_Machine_pop_c l hi _ hR (show 1 ≤ (mv_i σ 64 4).toInt by omega) (show (mv_i σ 64 4).toInt ≤ 1024 by omega)) rfl (ma_goodc kc_Machine_pop) (B.2.2.2.1 _ k_1592) (B.2.2.2.1 _ k_1594) (B.2.2.2.1 _ ks_72) (B.2.2.2.1 _ k_11) ⟨by decide +kernel, by decide +kernel, by decide +kernel⟩ rfl d_Machine_work_185 rfl (Nat.le_of_ble_eq_true rfl) ⟨by decide, by decide⟩ ⟨by decide, by decide⟩ ⟨by decide, by decide⟩ (mv_noH hno _) (fun v185 σ185 h185 => ?_)
    subst h185
    refine mv_ldc2 (pc := 188) (v := -1) B (B.2.2.2.1 _ k_1609) d_Machine_work_188 ?_
    refine mv_lxor (pc := 191) B d_Machine_work_191 ?_
    refine mv_lload_n (pc := 192) B d_Machine_work_192 rfl 2 rfl ?_
    refine mv_land (pc := 193) B d_Machine_work_193 ?_
    refine mv_callVv (pc := 194) (n := 1) (ci := 9) (C := R_Machine) B (mK_ok sk sv) hNs rfl rfl (c_Machine_push_c l hi _ _ hR (show 0 ≤ (mv_i σ 64 4 - 1).toInt by omega) (show (mv_i σ 64 4 - 1).toInt < 1024 by omega)) rfl (ma_goodc kc_Machine_push) (B.2.2.2.1 _ k_1584) (B.2.2.2.1 _ k_1586) (B.2.2.2.1 _ ks_70) (B.2.2.2.1 _ k_11) ⟨by decide +kernel, by decide +kernel, by decide +kernel⟩ rfl d_Machine_work_194 rfl (Nat.le_of_ble_eq_true rfl) ⟨by decide, by decide⟩ ⟨by decide, by decide⟩ ⟨by decide, by decide⟩ (mv_noH hno _) (fun σ194 h194 => ?_)
    subst h194
    refine mv_goto (pc := 197) (tgt := 301) B d_Machine_work_197 rfl ?_
    exact mv_vret (pc := 301) B hr d_Machine_work_301 (Nat.le_refl _) (Nat.le_refl _) ⟨rfl, (((MF0.si ⟨rfl, Or.inl rfl⟩).sb (Or.inr (Or.inr (Or.inl rfl)))).si ⟨rfl, Or.inl rfl⟩), Or.inr ⟨hU, by show (mv_i σ 64 4 - 1 + 1).toInt = h8; rw [i32_inc (by omega)]; omega⟩⟩
  refine ⟨fun h1 => ?_, fun h1n307 => ?_⟩
  · skip
    have h1 : d = 307 := Int32.toInt_inj.mp (show d.toInt = (307 : Int32).toInt from h1)
    subst h1
    have o1 : 1 ≤ h9 := hO.1
    have o2 : h8 + 1 = h9 + 1 := hO.2.1
    have p1 := sub_one (x := mv_i σ 64 4) (by omega)
    refine mv_aload_n (pc := 183) B d_Machine_work_183 rfl 0 rfl ?_
    refine mv_aload_n (pc := 184) B d_Machine_work_184 rfl 0 rfl ?_
    refine mv_callVl (pc := 185) (n := 0) (ci := 9) (C := R_Machine) B (mK_ok sk sv) hNs rfl rfl (c_Machine_pop_c l hi _ hR (show 1 ≤ (mv_i σ 64 4).toInt by omega) (show (mv_i σ 64 4).toInt ≤ 1024 by omega)) rfl (ma_goodc kc_Machine_pop) (B.2.2.2.1 _ k_1592) (B.2.2.2.1 _ k_1594) (B.2.2.2.1 _ ks_72) (B.2.2.2.1 _ k_11) ⟨by decide +kernel, by decide +kernel, by decide +kernel⟩ rfl d_Machine_work_185 rfl (Nat.le_of_ble_eq_true rfl) ⟨by decide, by decide⟩ ⟨by decide, by decide⟩ ⟨by decide, by decide⟩ (mv_noH hno _) (fun v185 σ185 h185 => ?_)
    subst h185
    refine mv_ldc2 (pc := 188) (v := -1) B (B.2.2.2.1 _ k_1609) d_Machine_work_188 ?_
    refine mv_lxor (pc := 191) B d_Machine_work_191 ?_
    refine mv_lload_n (pc := 192) B d_Machine_work_192 rfl 2 rfl ?_
    refine mv_land (pc := 193) B d_Machine_work_193 ?_
    refine mv_callVv (pc := 194) (n := 1) (ci := 9) (C := R_Machine) B (mK_ok sk sv) hNs rfl rfl (c_Machine_push_c l hi _ _ hR (show 0 ≤ (mv_i σ 64 4 - 1).toInt by omega) (show (mv_i σ 64 4 - 1).toInt < 1024 by omega)) rfl (ma_goodc kc_Machine_push) (B.2.2.2.1 _ k_1584) (B.2.2.2.1 _ k_1586) (B.2.2.2.1 _ ks_70) (B.2.2.2.1 _ k_11) ⟨by decide +kernel, by decide +kernel, by decide +kernel⟩ rfl d_Machine_work_194 rfl (Nat.le_of_ble_eq_true rfl) ⟨by decide, by decide⟩ ⟨by decide, by decide⟩ ⟨by decide, by decide⟩ (mv_noH hno _) (fun σ194 h194 => ?_)
    subst h194
    refine mv_goto (pc := 197) (tgt := 301) B d_Machine_work_197 rfl ?_
    exact mv_vret (pc := 301) B hr d_Machine_work_301 (Nat.le_refl _) (Nat.le_refl _) ⟨rfl, (((MF0.si ⟨rfl, Or.inl rfl⟩).sb (Or.inr (Or.inr (Or.inl rfl)))).si ⟨rfl, Or.inl rfl⟩), Or.inr ⟨hU, by show (mv_i σ 64 4 - 1 + 1).toInt = h8; rw [i32_inc (by omega)]; omega⟩⟩
  refine ⟨fun h1 => ?_, fun h1n308 => ?_⟩
  · skip
    have h1 : d = 308 := Int32.toInt_inj.mp (show d.toInt = (308 : Int32).toInt from h1)
    subst h1
    have o1 : 1 ≤ h9 := hO.1
    have o2 : h8 + 1 = h9 + 1 := hO.2.1
    have p1 := sub_one (x := mv_i σ 64 4) (by omega)
    refine mv_aload_n (pc := 200) B d_Machine_work_200 rfl 0 rfl ?_
    refine mv_aload_n (pc := 201) B d_Machine_work_201 rfl 0 rfl ?_
    refine mv_callVl (pc := 202) (n := 0) (ci := 9) (C := R_Machine) B (mK_ok sk sv) hNs rfl rfl (c_Machine_pop_c l hi _ hR (show 1 ≤ (mv_i σ 64 4).toInt by omega) (show (mv_i σ 64 4).toInt ≤ 1024 by omega)) rfl (ma_goodc kc_Machine_pop) (B.2.2.2.1 _ k_1592) (B.2.2.2.1 _ k_1594) (B.2.2.2.1 _ ks_72) (B.2.2.2.1 _ k_11) ⟨by decide +kernel, by decide +kernel, by decide +kernel⟩ rfl d_Machine_work_202 rfl (Nat.le_of_ble_eq_true rfl) ⟨by decide, by decide⟩ ⟨by decide, by decide⟩ ⟨by decide, by decide⟩ (mv_noH hno _) (fun v202 σ202 h202 => ?_)
    subst h202
    refine mv_lload_n (pc := 205) B d_Machine_work_205 rfl 2 rfl ?_
    refine mv_ldc2 (pc := 206) (v := 255) B (B.2.2.2.1 _ k_1610) d_Machine_work_206 ?_
    refine mv_land (pc := 209) B d_Machine_work_209 ?_
    refine mv_l2i (pc := 210) B d_Machine_work_210 ?_
    refine mv_lushr (pc := 211) B d_Machine_work_211 ?_
    refine mv_lload_n (pc := 212) B d_Machine_work_212 rfl 2 rfl ?_
    refine mv_bipush (pc := 213) (v := 8) B d_Machine_work_213 (by decide) ?_
    refine mv_lshr (pc := 215) B d_Machine_work_215 ?_
    refine mv_l2i (pc := 216) B d_Machine_work_216 ?_
    refine mv_callSl (pc := 217) (n := 1) B (mK_ok sk sv) hNs (c_Bits_mask l hi _ _) rfl (ma_goodc kc_Bits_mask) (B.2.2.2.1 _ k_1604) (B.2.2.2.1 _ k_1437) (B.2.2.2.1 _ k_33) ⟨by decide +kernel, by decide +kernel, by decide +kernel⟩ rfl d_Machine_work_217 rfl (Nat.le_of_ble_eq_true rfl) ⟨by decide, by decide⟩ ⟨by decide, by decide⟩ ⟨by decide, by decide⟩ (mv_noH hno _) (fun v217 σ217 h217 => ?_)
    subst h217
    refine mv_land (pc := 220) B d_Machine_work_220 ?_
    refine mv_callVv (pc := 221) (n := 1) (ci := 9) (C := R_Machine) B (mK_ok sk sv) hNs rfl rfl (c_Machine_push_c l hi _ _ hR (show 0 ≤ (mv_i σ 64 4 - 1).toInt by omega) (show (mv_i σ 64 4 - 1).toInt < 1024 by omega)) rfl (ma_goodc kc_Machine_push) (B.2.2.2.1 _ k_1584) (B.2.2.2.1 _ k_1586) (B.2.2.2.1 _ ks_70) (B.2.2.2.1 _ k_11) ⟨by decide +kernel, by decide +kernel, by decide +kernel⟩ rfl d_Machine_work_221 rfl (Nat.le_of_ble_eq_true rfl) ⟨by decide, by decide⟩ ⟨by decide, by decide⟩ ⟨by decide, by decide⟩ (mv_noH hno _) (fun σ221 h221 => ?_)
    subst h221
    refine mv_goto (pc := 224) (tgt := 301) B d_Machine_work_224 rfl ?_
    exact mv_vret (pc := 301) B hr d_Machine_work_301 (Nat.le_refl _) (Nat.le_refl _) ⟨rfl, (((MF0.si ⟨rfl, Or.inl rfl⟩).sb (Or.inr (Or.inr (Or.inl rfl)))).si ⟨rfl, Or.inl rfl⟩), Or.inr ⟨hU, by show (mv_i σ 64 4 - 1 + 1).toInt = h8; rw [i32_inc (by omega)]; omega⟩⟩
  refine ⟨fun h1 => ?_, fun h1n309 => ?_⟩
  · skip
    have h1 : d = 309 := Int32.toInt_inj.mp (show d.toInt = (309 : Int32).toInt from h1)
    subst h1
    have o1 : 2 ≤ h9 := hO.1
    have o2 : h8 + 2 = h9 + 1 := hO.2.1
    have p1 := sub_one (x := mv_i σ 64 4) (by omega)
    have p2 := sub_one (x := mv_i σ 64 4 - 1) (by omega)
    refine mv_aload_n (pc := 256) B d_Machine_work_256 rfl 0 rfl ?_
    refine mv_callVl (pc := 257) (n := 0) (ci := 9) (C := R_Machine) B (mK_ok sk sv) hNs rfl rfl (c_Machine_pop_c l hi _ hR (show 1 ≤ (mv_i σ 64 4).toInt by omega) (show (mv_i σ 64 4).toInt ≤ 1024 by omega)) rfl (ma_goodc kc_Machine_pop) (B.2.2.2.1 _ k_1592) (B.2.2.2.1 _ k_1594) (B.2.2.2.1 _ ks_72) (B.2.2.2.1 _ k_11) ⟨by decide +kernel, by decide +kernel, by decide +kernel⟩ rfl d_Machine_work_257 rfl (Nat.le_of_ble_eq_true rfl) ⟨by decide, by decide⟩ ⟨by decide, by decide⟩ ⟨by decide, by decide⟩ (mv_noH hno _) (fun v257 σ257 h257 => ?_)
    subst h257
    refine mv_lstore (pc := 260) B d_Machine_work_260 (by decide) rfl ?_
    refine mv_aload_n (pc := 262) B d_Machine_work_262 rfl 1 rfl ?_
    refine mv_aload_n (pc := 263) B d_Machine_work_263 rfl 1 rfl ?_
    refine mv_callVl (pc := 264) (n := 0) (ci := 9) (C := R_Machine) B (mK_ok sk sv) hNs rfl rfl (c_Machine_pop_c l hi _ hR (show 1 ≤ (mv_i σ 64 4 - 1).toInt by omega) (show (mv_i σ 64 4 - 1).toInt ≤ 1024 by omega)) rfl (ma_goodc kc_Machine_pop) (B.2.2.2.1 _ k_1592) (B.2.2.2.1 _ k_1594) (B.2.2.2.1 _ ks_72) (B.2.2.2.1 _ k_11) ⟨by decide +kernel, by decide +kernel, by decide +kernel⟩ rfl d_Machine_work_264 rfl (Nat.le_of_ble_eq_true rfl) ⟨by decide, by decide⟩ ⟨by decide, by decide⟩ ⟨by decide, by decide⟩ (mv_noH hno _) (fun v264 σ264 h264 => ?_)
    subst h264
    refine mv_lload_n (pc := 267) B d_Machine_work_267 rfl 3 rfl ?_
    refine mv_l2i (pc := 268) B d_Machine_work_268 ?_
    refine mv_lshl (pc := 269) B d_Machine_work_269 ?_
    refine mv_lload (pc := 270) B d_Machine_work_270 0 rfl ?_
    refine mv_lor (pc := 272) B d_Machine_work_272 ?_
    refine mv_callVv (pc := 273) (n := 1) (ci := 9) (C := R_Machine) B (mK_ok sk sv) hNs rfl rfl (c_Machine_push_c l hi _ _ hR (show 0 ≤ (mv_i σ 64 4 - 1 - 1).toInt by omega) (show (mv_i σ 64 4 - 1 - 1).toInt < 1024 by omega)) rfl (ma_goodc kc_Machine_push) (B.2.2.2.1 _ k_1584) (B.2.2.2.1 _ k_1586) (B.2.2.2.1 _ ks_70) (B.2.2.2.1 _ k_11) ⟨by decide +kernel, by decide +kernel, by decide +kernel⟩ rfl d_Machine_work_273 rfl (Nat.le_of_ble_eq_true rfl) ⟨by decide, by decide⟩ ⟨by decide, by decide⟩ ⟨by decide, by decide⟩ (mv_noH hno _) (fun σ273 h273 => ?_)
    subst h273
    refine mv_goto (pc := 276) (tgt := 301) B d_Machine_work_276 rfl ?_
    exact mv_vret (pc := 301) B hr d_Machine_work_301 (Nat.le_refl _) (Nat.le_refl _) ⟨rfl, ((((MF0.si ⟨rfl, Or.inl rfl⟩).si ⟨rfl, Or.inl rfl⟩).sb (Or.inr (Or.inr (Or.inl rfl)))).si ⟨rfl, Or.inl rfl⟩), Or.inr ⟨hU, by show (mv_i σ 64 4 - 1 - 1 + 1).toInt = h8; rw [i32_inc (by omega)]; omega⟩⟩
  refine ⟨fun h1 => ?_, fun h1n310 => ?_⟩
  · skip
    have h1 : d = 310 := Int32.toInt_inj.mp (show d.toInt = (310 : Int32).toInt from h1)
    subst h1
    have o1 : 1 ≤ h9 := hO.1
    have o2 : h8 + 1 = h9 + 1 := hO.2.1
    have p1 := sub_one (x := mv_i σ 64 4) (by omega)
    refine mv_aload_n (pc := 227) B d_Machine_work_227 rfl 0 rfl ?_
    refine mv_aload_n (pc := 228) B d_Machine_work_228 rfl 0 rfl ?_
    refine mv_callVl (pc := 229) (n := 0) (ci := 9) (C := R_Machine) B (mK_ok sk sv) hNs rfl rfl (c_Machine_pop_c l hi _ hR (show 1 ≤ (mv_i σ 64 4).toInt by omega) (show (mv_i σ 64 4).toInt ≤ 1024 by omega)) rfl (ma_goodc kc_Machine_pop) (B.2.2.2.1 _ k_1592) (B.2.2.2.1 _ k_1594) (B.2.2.2.1 _ ks_72) (B.2.2.2.1 _ k_11) ⟨by decide +kernel, by decide +kernel, by decide +kernel⟩ rfl d_Machine_work_229 rfl (Nat.le_of_ble_eq_true rfl) ⟨by decide, by decide⟩ ⟨by decide, by decide⟩ ⟨by decide, by decide⟩ (mv_noH hno _) (fun v229 σ229 h229 => ?_)
    subst h229
    refine mv_lload_n (pc := 232) B d_Machine_work_232 rfl 2 rfl ?_
    refine mv_ldc2 (pc := 233) (v := 255) B (B.2.2.2.1 _ k_1610) d_Machine_work_233 ?_
    refine mv_land (pc := 236) B d_Machine_work_236 ?_
    refine mv_l2i (pc := 237) B d_Machine_work_237 ?_
    refine mv_callSl (pc := 238) (n := 2) B (mK_ok sk sv) hNs (c_Bits_signed l hi _ _ _) rfl (ma_goodc kc_Bits_signed) (B.2.2.2.1 _ k_1611) (B.2.2.2.1 _ k_1612) (B.2.2.2.1 _ k_33) ⟨by decide +kernel, by decide +kernel, by decide +kernel⟩ rfl d_Machine_work_238 rfl (Nat.le_of_ble_eq_true rfl) ⟨by decide, by decide⟩ ⟨by decide, by decide⟩ ⟨by decide, by decide⟩ (mv_noH hno _) (fun v238 σ238 h238 => ?_)
    subst h238
    refine mv_lload_n (pc := 241) B d_Machine_work_241 rfl 2 rfl ?_
    refine mv_bipush (pc := 242) (v := 8) B d_Machine_work_242 (by decide) ?_
    refine mv_lshr (pc := 244) B d_Machine_work_244 ?_
    refine mv_l2i (pc := 245) B d_Machine_work_245 ?_
    refine mv_callSl (pc := 246) (n := 1) B (mK_ok sk sv) hNs (c_Bits_mask l hi _ _) rfl (ma_goodc kc_Bits_mask) (B.2.2.2.1 _ k_1604) (B.2.2.2.1 _ k_1437) (B.2.2.2.1 _ k_33) ⟨by decide +kernel, by decide +kernel, by decide +kernel⟩ rfl d_Machine_work_246 rfl (Nat.le_of_ble_eq_true rfl) ⟨by decide, by decide⟩ ⟨by decide, by decide⟩ ⟨by decide, by decide⟩ (mv_noH hno _) (fun v246 σ246 h246 => ?_)
    subst h246
    refine mv_land (pc := 249) B d_Machine_work_249 ?_
    refine mv_callVv (pc := 250) (n := 1) (ci := 9) (C := R_Machine) B (mK_ok sk sv) hNs rfl rfl (c_Machine_push_c l hi _ _ hR (show 0 ≤ (mv_i σ 64 4 - 1).toInt by omega) (show (mv_i σ 64 4 - 1).toInt < 1024 by omega)) rfl (ma_goodc kc_Machine_push) (B.2.2.2.1 _ k_1584) (B.2.2.2.1 _ k_1586) (B.2.2.2.1 _ ks_70) (B.2.2.2.1 _ k_11) ⟨by decide +kernel, by decide +kernel, by decide +kernel⟩ rfl d_Machine_work_250 rfl (Nat.le_of_ble_eq_true rfl) ⟨by decide, by decide⟩ ⟨by decide, by decide⟩ ⟨by decide, by decide⟩ (mv_noH hno _) (fun σ250 h250 => ?_)
    subst h250
    refine mv_goto (pc := 253) (tgt := 301) B d_Machine_work_253 rfl ?_
    exact mv_vret (pc := 301) B hr d_Machine_work_301 (Nat.le_refl _) (Nat.le_refl _) ⟨rfl, (((MF0.si ⟨rfl, Or.inl rfl⟩).sb (Or.inr (Or.inr (Or.inl rfl)))).si ⟨rfl, Or.inl rfl⟩), Or.inr ⟨hU, by show (mv_i σ 64 4 - 1 + 1).toInt = h8; rw [i32_inc (by omega)]; omega⟩⟩
  refine ⟨fun h1 => ?_, fun h1n311 => ?_⟩
  · skip
    exact absurd (Int32.toInt_inj.mp (show d.toInt = (311 : Int32).toInt from h1)) hx.2.2.1
  refine ⟨fun h1 => ?_, fun h1n312 => ?_⟩
  · skip
    exact absurd (Int32.toInt_inj.mp (show d.toInt = (312 : Int32).toInt from h1)) hx.2.2.2
  refine ⟨fun h1 => ?_, fun h1n313 => ?_⟩
  · skip
    have h1 : d = 313 := Int32.toInt_inj.mp (show d.toInt = (313 : Int32).toInt from h1)
    subst h1
    have o1 : 1 ≤ h9 := hO.1
    have o2 : h8 + 1 = h9 + 0 := hO.2.1
    have o3 := hO.2.2.1 (by decide)
    have o4 := l2i_nn o3.1 (by omega)
    have p1 := sub_one (x := mv_i σ 64 4) (by omega)
    refine mv_aload_n (pc := 112) B d_Machine_work_112 rfl 0 rfl ?_
    refine mv_getR (pc := 113) (ci := 9) (C := R_Machine) (T := F_Machine) (N := 13) B 2 rfl rfl (by decide) i_Machine (B.2.2.2.1 _ k_444) rfl (hR.1 _ 2 _ rfl) d_Machine_work_113 ?_
    refine mv_lload_n (pc := 116) B d_Machine_work_116 rfl 2 rfl ?_
    refine mv_l2i (pc := 117) B d_Machine_work_117 ?_
    refine mv_aload_n (pc := 118) B d_Machine_work_118 rfl 0 rfl ?_
    refine mv_callVl (pc := 119) (n := 0) (ci := 9) (C := R_Machine) B (mK_ok sk sv) hNs rfl rfl (c_Machine_pop_c l hi _ hR (show 1 ≤ (mv_i σ 64 4).toInt by omega) (show (mv_i σ 64 4).toInt ≤ 1024 by omega)) rfl (ma_goodc kc_Machine_pop) (B.2.2.2.1 _ k_1592) (B.2.2.2.1 _ k_1594) (B.2.2.2.1 _ ks_72) (B.2.2.2.1 _ k_11) ⟨by decide +kernel, by decide +kernel, by decide +kernel⟩ rfl d_Machine_work_119 rfl (Nat.le_of_ble_eq_true rfl) ⟨by decide, by decide⟩ ⟨by decide, by decide⟩ ⟨by decide, by decide⟩ (mv_noH hno _) (fun v119 σ119 h119 => ?_)
    subst h119
    refine mv_last (pc := 122) B rfl (i32_in (by omega) (by omega)) d_Machine_work_122 ?_
    refine mv_goto (pc := 123) (tgt := 301) B d_Machine_work_123 rfl ?_
    exact mv_vret (pc := 301) B hr d_Machine_work_301 (Nat.le_refl _) (Nat.le_refl _) ⟨rfl, (MF0.si ⟨rfl, Or.inl rfl⟩).sb (Or.inr (Or.inl rfl)), Or.inr ⟨hU, by show (mv_i σ 64 4 - 1).toInt = h8; omega⟩⟩
  refine ⟨fun h1 => ?_, fun h1n314 => ?_⟩
  · skip
    have h1 : d = 314 := Int32.toInt_inj.mp (show d.toInt = (314 : Int32).toInt from h1)
    subst h1
    have o1 : 1 ≤ h9 := hO.1
    have o2 : h8 + 1 = h9 + 0 := hO.2.1
    have o3 := hO.2.2.2.2 (by decide)
    have ht64 := hT.2.1
    have o4 := l2i_nn o3.1 (by omega)
    obtain ⟨c9, f9, hc9, hf9, hs1, hs2⟩ := hT.2.2.2.2.2.2.1 w.toInt.toNat (by omega)
    have hf9 : (mv_a σ 148 w.toInt.toNat).toInt = f9 := hf9
    have o5 : w.toInt32.toInt = w.toInt.toNat := by rw [o4]; omega
    have hsl := hT.2.2.2.1
    have hu9 := hu rfl
    have i1 : 0 ≤ (mv_a σ 148 w.toInt.toNat).toInt := by omega
    have i2 : (mv_a σ 148 w.toInt.toNat).toInt + (0 : Int32).toInt < 65600 := by show (mv_a σ 148 w.toInt.toNat).toInt + 0 < 65600; omega
    have p1 := sub_one (x := mv_i σ 64 4) (by omega)
    refine mv_aload_n (pc := 126) B d_Machine_work_126 rfl 0 rfl ?_
    refine mv_aload_n (pc := 127) B d_Machine_work_127 rfl 0 rfl ?_
    refine mv_getI (pc := 128) (ci := 9) (C := R_Machine) (T := F_Machine) (N := 13) B 8 rfl rfl (by decide) i_Machine (B.2.2.2.1 _ k_450) rfl d_Machine_work_128 ?_
    refine mv_if_ne (pc := 131) (tgt := 147) B d_Machine_work_131 rfl (fun h131 => ?_) (fun h131 => ?_)
    · skip
      refine mv_iconst (pc := 147) (v := 1) B d_Machine_work_147 (by decide) ?_
      refine mv_goto (pc := 148) (tgt := 152) B d_Machine_work_148 rfl ?_
      refine mv_putI (pc := 152) (ci := 9) (C := R_Machine) (T := F_Machine) (N := 13) B 8 rfl rfl (by decide) i_Machine t_Machine_ok n_Machine (B.2.2.2.1 _ k_450) rfl rfl (by first | rfl | decide) rfl d_Machine_work_152 ?_
      refine mv_aload_n (pc := 155) B d_Machine_work_155 rfl 0 rfl ?_
      refine mv_lload_n (pc := 156) B d_Machine_work_156 rfl 2 rfl ?_
      refine mv_l2i (pc := 157) B d_Machine_work_157 ?_
      refine mv_iconst (pc := 158) (v := 0) B d_Machine_work_158 (by decide) ?_
      refine mv_aload_n (pc := 159) B d_Machine_work_159 rfl 0 rfl ?_
      refine mv_callVl (pc := 160) (n := 0) (ci := 9) (C := R_Machine) B (mK_ok sk sv) hNs rfl rfl (c_Machine_pop_c l hi _ hR (show 1 ≤ (mv_i σ 64 4).toInt by omega) (show (mv_i σ 64 4).toInt ≤ 1024 by omega)) rfl (ma_goodc kc_Machine_pop) (B.2.2.2.1 _ k_1592) (B.2.2.2.1 _ k_1594) (B.2.2.2.1 _ ks_72) (B.2.2.2.1 _ k_11) ⟨by decide +kernel, by decide +kernel, by decide +kernel⟩ rfl d_Machine_work_160 rfl (Nat.le_of_ble_eq_true rfl) ⟨by decide, by decide⟩ ⟨by decide, by decide⟩ ⟨by decide, by decide⟩ (mv_noH hno _) (fun v160 σ160 h160 => ?_)
      subst h160
      refine mv_gen (fun S eS => ?_)
      have sR : Rf 145 (mv_r S) := by rw [eS]; exact hR
      have sT : Th 145 S th sl := by rw [eS]; exact hT
      have sU : Un S u := by rw [eS]; exact hU
      have sF : MF σ S := by rw [eS]; exact (MF0.si ⟨rfl, Or.inr (Or.inr rfl)⟩).si ⟨rfl, Or.inl rfl⟩
      have s4 : (mv_i S 64 4).toInt = h8 := by rw [eS]; show (mv_i σ 64 4 - 1).toInt = h8; omega
      have i1 : 0 ≤ (mv_a S 148 w.toInt.toNat).toInt := by rw [eS]; exact i1
      have i2 : (mv_a S 148 w.toInt.toNat).toInt + (0 : Int32).toInt < 65600 := by rw [eS]; exact i2
      clear eS
      refine mv_callVv (pc := 163) (n := 3) (ci := 9) (C := R_Machine) B (mK_ok sk sv) hNs rfl rfl (c_Machine_assign_c l hi _ _ _ _ sR th sl sT w.toInt.toNat o5 (by omega) (by decide) i1 i2 u sU hu9) rfl (ma_goodc kc_Machine_assign) (B.2.2.2.1 _ k_1596) (B.2.2.2.1 _ k_1598) (B.2.2.2.1 _ ks_73) (B.2.2.2.1 _ k_11) ⟨by decide +kernel, by decide +kernel, by decide +kernel⟩ rfl d_Machine_work_163 rfl (Nat.le_of_ble_eq_true rfl) ⟨by decide, by decide⟩ ⟨by decide, by decide⟩ ⟨by decide, by decide⟩ (mv_noH hno _) (fun σ163 h163 => ?_)
      obtain ⟨f163, u163, t163⟩ := h163
      refine mv_goto (pc := 166) (tgt := 301) B d_Machine_work_166 rfl ?_
      exact mv_vret (pc := 301) B hr d_Machine_work_301 (Nat.le_refl _) (Nat.le_refl _) ⟨rfl, sF.tr f163, Or.inl ⟨rfl, u163, by rw [t163]; exact s4⟩⟩
    · skip
      refine mv_lload_n (pc := 134) B d_Machine_work_134 rfl 2 rfl ?_
      refine mv_aload_n (pc := 135) B d_Machine_work_135 rfl 0 rfl ?_
      refine mv_getR (pc := 136) (ci := 9) (C := R_Machine) (T := F_Machine) (N := 13) B 0 rfl rfl (by decide) i_Machine (B.2.2.2.1 _ k_440) rfl hR.2.2 d_Machine_work_136 ?_
      refine mv_getI (pc := 139) (ci := 7) (C := R_Program) (T := F_Program) (N := 19) B 8 rfl rfl (by decide) i_Program (B.2.2.2.1 _ k_338) rfl d_Machine_work_139 ?_
      refine mv_i2l (pc := 142) B d_Machine_work_142 ?_
      refine mv_lcmp (pc := 143) B d_Machine_work_143 ?_
      refine mv_if_ne (pc := 144) (tgt := 151) B d_Machine_work_144 rfl (fun h144 => ?_) (fun h144 => ?_)
      · skip
        refine mv_iconst (pc := 151) (v := 0) B d_Machine_work_151 (by decide) ?_
        refine mv_putI (pc := 152) (ci := 9) (C := R_Machine) (T := F_Machine) (N := 13) B 8 rfl rfl (by decide) i_Machine t_Machine_ok n_Machine (B.2.2.2.1 _ k_450) rfl rfl (by first | rfl | decide) rfl d_Machine_work_152 ?_
        refine mv_aload_n (pc := 155) B d_Machine_work_155 rfl 0 rfl ?_
        refine mv_lload_n (pc := 156) B d_Machine_work_156 rfl 2 rfl ?_
        refine mv_l2i (pc := 157) B d_Machine_work_157 ?_
        refine mv_iconst (pc := 158) (v := 0) B d_Machine_work_158 (by decide) ?_
        refine mv_aload_n (pc := 159) B d_Machine_work_159 rfl 0 rfl ?_
        refine mv_callVl (pc := 160) (n := 0) (ci := 9) (C := R_Machine) B (mK_ok sk sv) hNs rfl rfl (c_Machine_pop_c l hi _ hR (show 1 ≤ (mv_i σ 64 4).toInt by omega) (show (mv_i σ 64 4).toInt ≤ 1024 by omega)) rfl (ma_goodc kc_Machine_pop) (B.2.2.2.1 _ k_1592) (B.2.2.2.1 _ k_1594) (B.2.2.2.1 _ ks_72) (B.2.2.2.1 _ k_11) ⟨by decide +kernel, by decide +kernel, by decide +kernel⟩ rfl d_Machine_work_160 rfl (Nat.le_of_ble_eq_true rfl) ⟨by decide, by decide⟩ ⟨by decide, by decide⟩ ⟨by decide, by decide⟩ (mv_noH hno _) (fun v160 σ160 h160 => ?_)
        subst h160
        refine mv_gen (fun S eS => ?_)
        have sR : Rf 145 (mv_r S) := by rw [eS]; exact hR
        have sT : Th 145 S th sl := by rw [eS]; exact hT
        have sU : Un S u := by rw [eS]; exact hU
        have sF : MF σ S := by rw [eS]; exact (MF0.si ⟨rfl, Or.inr (Or.inr rfl)⟩).si ⟨rfl, Or.inl rfl⟩
        have s4 : (mv_i S 64 4).toInt = h8 := by rw [eS]; show (mv_i σ 64 4 - 1).toInt = h8; omega
        have i1 : 0 ≤ (mv_a S 148 w.toInt.toNat).toInt := by rw [eS]; exact i1
        have i2 : (mv_a S 148 w.toInt.toNat).toInt + (0 : Int32).toInt < 65600 := by rw [eS]; exact i2
        clear eS
        refine mv_callVv (pc := 163) (n := 3) (ci := 9) (C := R_Machine) B (mK_ok sk sv) hNs rfl rfl (c_Machine_assign_c l hi _ _ _ _ sR th sl sT w.toInt.toNat o5 (by omega) (by decide) i1 i2 u sU hu9) rfl (ma_goodc kc_Machine_assign) (B.2.2.2.1 _ k_1596) (B.2.2.2.1 _ k_1598) (B.2.2.2.1 _ ks_73) (B.2.2.2.1 _ k_11) ⟨by decide +kernel, by decide +kernel, by decide +kernel⟩ rfl d_Machine_work_163 rfl (Nat.le_of_ble_eq_true rfl) ⟨by decide, by decide⟩ ⟨by decide, by decide⟩ ⟨by decide, by decide⟩ (mv_noH hno _) (fun σ163 h163 => ?_)
        obtain ⟨f163, u163, t163⟩ := h163
        refine mv_goto (pc := 166) (tgt := 301) B d_Machine_work_166 rfl ?_
        exact mv_vret (pc := 301) B hr d_Machine_work_301 (Nat.le_refl _) (Nat.le_refl _) ⟨rfl, sF.tr f163, Or.inl ⟨rfl, u163, by rw [t163]; exact s4⟩⟩
      · skip
        refine mv_iconst (pc := 147) (v := 1) B d_Machine_work_147 (by decide) ?_
        refine mv_goto (pc := 148) (tgt := 152) B d_Machine_work_148 rfl ?_
        refine mv_putI (pc := 152) (ci := 9) (C := R_Machine) (T := F_Machine) (N := 13) B 8 rfl rfl (by decide) i_Machine t_Machine_ok n_Machine (B.2.2.2.1 _ k_450) rfl rfl (by first | rfl | decide) rfl d_Machine_work_152 ?_
        refine mv_aload_n (pc := 155) B d_Machine_work_155 rfl 0 rfl ?_
        refine mv_lload_n (pc := 156) B d_Machine_work_156 rfl 2 rfl ?_
        refine mv_l2i (pc := 157) B d_Machine_work_157 ?_
        refine mv_iconst (pc := 158) (v := 0) B d_Machine_work_158 (by decide) ?_
        refine mv_aload_n (pc := 159) B d_Machine_work_159 rfl 0 rfl ?_
        refine mv_callVl (pc := 160) (n := 0) (ci := 9) (C := R_Machine) B (mK_ok sk sv) hNs rfl rfl (c_Machine_pop_c l hi _ hR (show 1 ≤ (mv_i σ 64 4).toInt by omega) (show (mv_i σ 64 4).toInt ≤ 1024 by omega)) rfl (ma_goodc kc_Machine_pop) (B.2.2.2.1 _ k_1592) (B.2.2.2.1 _ k_1594) (B.2.2.2.1 _ ks_72) (B.2.2.2.1 _ k_11) ⟨by decide +kernel, by decide +kernel, by decide +kernel⟩ rfl d_Machine_work_160 rfl (Nat.le_of_ble_eq_true rfl) ⟨by decide, by decide⟩ ⟨by decide, by decide⟩ ⟨by decide, by decide⟩ (mv_noH hno _) (fun v160 σ160 h160 => ?_)
        subst h160
        refine mv_gen (fun S eS => ?_)
        have sR : Rf 145 (mv_r S) := by rw [eS]; exact hR
        have sT : Th 145 S th sl := by rw [eS]; exact hT
        have sU : Un S u := by rw [eS]; exact hU
        have sF : MF σ S := by rw [eS]; exact (MF0.si ⟨rfl, Or.inr (Or.inr rfl)⟩).si ⟨rfl, Or.inl rfl⟩
        have s4 : (mv_i S 64 4).toInt = h8 := by rw [eS]; show (mv_i σ 64 4 - 1).toInt = h8; omega
        have i1 : 0 ≤ (mv_a S 148 w.toInt.toNat).toInt := by rw [eS]; exact i1
        have i2 : (mv_a S 148 w.toInt.toNat).toInt + (0 : Int32).toInt < 65600 := by rw [eS]; exact i2
        clear eS
        refine mv_callVv (pc := 163) (n := 3) (ci := 9) (C := R_Machine) B (mK_ok sk sv) hNs rfl rfl (c_Machine_assign_c l hi _ _ _ _ sR th sl sT w.toInt.toNat o5 (by omega) (by decide) i1 i2 u sU hu9) rfl (ma_goodc kc_Machine_assign) (B.2.2.2.1 _ k_1596) (B.2.2.2.1 _ k_1598) (B.2.2.2.1 _ ks_73) (B.2.2.2.1 _ k_11) ⟨by decide +kernel, by decide +kernel, by decide +kernel⟩ rfl d_Machine_work_163 rfl (Nat.le_of_ble_eq_true rfl) ⟨by decide, by decide⟩ ⟨by decide, by decide⟩ ⟨by decide, by decide⟩ (mv_noH hno _) (fun σ163 h163 => ?_)
        obtain ⟨f163, u163, t163⟩ := h163
        refine mv_goto (pc := 166) (tgt := 301) B d_Machine_work_166 rfl ?_
        exact mv_vret (pc := 301) B hr d_Machine_work_301 (Nat.le_refl _) (Nat.le_refl _) ⟨rfl, sF.tr f163, Or.inl ⟨rfl, u163, by rw [t163]; exact s4⟩⟩
  show mv_V _ _ _ _ _ _ _ _ _ _ _ _ _ _ _ _ 279 _ _
  have n300 : ¬ d = 300 := fun q => h1n300 (by rw [q]; rfl)
  have n301 : ¬ d = 301 := fun q => h1n301 (by rw [q]; rfl)
  have n302 : ¬ d = 302 := fun q => h1n302 (by rw [q]; rfl)
  have n303 : ¬ d = 303 := fun q => h1n303 (by rw [q]; rfl)
  have n304 : ¬ d = 304 := fun q => h1n304 (by rw [q]; rfl)
  have n305 : ¬ d = 305 := fun q => h1n305 (by rw [q]; rfl)
  have n306 : ¬ d = 306 := fun q => h1n306 (by rw [q]; rfl)
  have n307 : ¬ d = 307 := fun q => h1n307 (by rw [q]; rfl)
  have n308 : ¬ d = 308 := fun q => h1n308 (by rw [q]; rfl)
  have n309 : ¬ d = 309 := fun q => h1n309 (by rw [q]; rfl)
  have n310 : ¬ d = 310 := fun q => h1n310 (by rw [q]; rfl)
  have n311 : ¬ d = 311 := fun q => h1n311 (by rw [q]; rfl)
  have n312 : ¬ d = 312 := fun q => h1n312 (by rw [q]; rfl)
  have n313 : ¬ d = 313 := fun q => h1n313 (by rw [q]; rfl)
  have n314 : ¬ d = 314 := fun q => h1n314 (by rw [q]; rfl)
  have o0 : opd d = (2, 1) := by
    unfold opd
    rw [if_neg (by rintro (q | q | q | q) <;> contradiction), if_neg (by rintro (q | q | q | q | q | q) <;> contradiction), if_neg (by rintro (q | q) <;> contradiction), if_neg hx5]
  have o1 : 2 ≤ h9 := by have := hO.1; rw [o0] at this; exact this
  have o2 : h8 + 2 = h9 + 1 := by have := hO.2.1; rw [o0] at this; exact this
  have p1 := sub_one (x := mv_i σ 64 4) (by omega)
  have p2 := sub_one (x := mv_i σ 64 4 - 1) (by omega)
  refine mv_aload_n (pc := 279) B d_Machine_work_279 rfl 0 rfl ?_
  refine mv_callVl (pc := 280) (n := 0) (ci := 9) (C := R_Machine) B (mK_ok sk sv) hNs rfl rfl (c_Machine_pop_c l hi _ hR (show 1 ≤ (mv_i σ 64 4).toInt by omega) (show (mv_i σ 64 4).toInt ≤ 1024 by omega)) rfl (ma_goodc kc_Machine_pop) (B.2.2.2.1 _ k_1592) (B.2.2.2.1 _ k_1594) (B.2.2.2.1 _ ks_72) (B.2.2.2.1 _ k_11) ⟨by decide +kernel, by decide +kernel, by decide +kernel⟩ rfl d_Machine_work_280 rfl (Nat.le_of_ble_eq_true rfl) ⟨by decide, by decide⟩ ⟨by decide, by decide⟩ ⟨by decide, by decide⟩ (mv_noH hno _) (fun v280 σ280 h280 => ?_)
  subst h280
  refine mv_lstore (pc := 283) B d_Machine_work_283 (by decide) rfl ?_
  refine mv_aload_n (pc := 285) B d_Machine_work_285 rfl 1 rfl ?_
  refine mv_iload_n (pc := 286) B d_Machine_work_286 rfl 2 rfl ?_
  refine mv_aload_n (pc := 287) B d_Machine_work_287 rfl 1 rfl ?_
  refine mv_callVl (pc := 288) (n := 0) (ci := 9) (C := R_Machine) B (mK_ok sk sv) hNs rfl rfl (c_Machine_pop_c l hi _ hR (show 1 ≤ (mv_i σ 64 4 - 1).toInt by omega) (show (mv_i σ 64 4 - 1).toInt ≤ 1024 by omega)) rfl (ma_goodc kc_Machine_pop) (B.2.2.2.1 _ k_1592) (B.2.2.2.1 _ k_1594) (B.2.2.2.1 _ ks_72) (B.2.2.2.1 _ k_11) ⟨by decide +kernel, by decide +kernel, by decide +kernel⟩ rfl d_Machine_work_288 rfl (Nat.le_of_ble_eq_true rfl) ⟨by decide, by decide⟩ ⟨by decide, by decide⟩ ⟨by decide, by decide⟩ (mv_noH hno _) (fun v288 σ288 h288 => ?_)
  subst h288
  refine mv_lload (pc := 291) B d_Machine_work_291 0 rfl ?_
  refine mv_lload_n (pc := 293) B d_Machine_work_293 rfl 3 rfl ?_
  refine mv_l2i (pc := 294) B d_Machine_work_294 ?_
  refine mv_callSl (pc := 295) (n := 4) B (mK_ok sk sv) hNs (c_Bits_ofTwo l hi _ _ _ _ _) rfl (ma_goodc kc_Bits_ofTwo) (B.2.2.2.1 _ k_1614) (B.2.2.2.1 _ k_1615) (B.2.2.2.1 _ k_33) ⟨by decide +kernel, by decide +kernel, by decide +kernel⟩ rfl d_Machine_work_295 rfl (Nat.le_of_ble_eq_true rfl) ⟨by decide, by decide⟩ ⟨by decide, by decide⟩ ⟨by decide, by decide⟩ (mv_noH hno _) (fun v295 σ295 h295 => ?_)
  subst h295
  refine mv_callVv (pc := 298) (n := 1) (ci := 9) (C := R_Machine) B (mK_ok sk sv) hNs rfl rfl (c_Machine_push_c l hi _ _ hR (show 0 ≤ (mv_i σ 64 4 - 1 - 1).toInt by omega) (show (mv_i σ 64 4 - 1 - 1).toInt < 1024 by omega)) rfl (ma_goodc kc_Machine_push) (B.2.2.2.1 _ k_1584) (B.2.2.2.1 _ k_1586) (B.2.2.2.1 _ ks_70) (B.2.2.2.1 _ k_11) ⟨by decide +kernel, by decide +kernel, by decide +kernel⟩ rfl d_Machine_work_298 rfl (Nat.le_of_ble_eq_true rfl) ⟨by decide, by decide⟩ ⟨by decide, by decide⟩ ⟨by decide, by decide⟩ (mv_noH hno _) (fun σ298 h298 => ?_)
  subst h298
  exact mv_vret (pc := 301) B hr d_Machine_work_301 (Nat.le_refl _) (Nat.le_refl _) ⟨rfl, ((((MF0.si ⟨rfl, Or.inl rfl⟩).si ⟨rfl, Or.inl rfl⟩).sb (Or.inr (Or.inr (Or.inl rfl)))).si ⟨rfl, Or.inl rfl⟩), Or.inr ⟨hU, by show (mv_i σ 64 4 - 1 - 1 + 1).toInt = h8; rw [i32_inc (by omega)]; omega⟩⟩
