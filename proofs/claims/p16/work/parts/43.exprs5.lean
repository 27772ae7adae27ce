/-! Exprs: part, choose, otherwise, join, cell, widen -/
def y_Exprs_part : MethodName := ⟨"MachineLoom$Exprs", "part", "()V"⟩
abbrev b_Exprs_part : ByteArray := prog_3_method_12_code
theorem kc_Exprs_part : Cond.code y_Exprs_part b_Exprs_part 12 (Option.none : Option Jvm.ClassFile.FieldType) ∈ ma := ma_of (tb_7 _ (List.mem_of_getElem? (i := 27) rfl)) rfl
theorem k_1477 : (Jvm.Cond.constantLong "MachineLoom$Exprs" (171 : Nat) (255 : Int64)) ∈ ma := ma_of (tb_7 _ (List.mem_of_getElem? (i := 37) rfl)) rfl
theorem k_1473 : (Jvm.Cond.methodLink "MachineLoom$Exprs" (167 : Nat) ({ cls := "MachineLoom$Bits", name := "below", desc := "(JJ)Z" } : Jvm.MethodName)) ∈ ma := ma_of (tb_7 _ (List.mem_of_getElem? (i := 33) rfl)) rfl
theorem k_1468 : (Jvm.Cond.methodLink "MachineLoom$Exprs" (161 : Nat) ({ cls := "MachineLoom$Tokens", name := "close", desc := "(I)I" } : Jvm.MethodName)) ∈ ma := ma_of (tb_7 _ (List.mem_of_getElem? (i := 28) rfl)) rfl
theorem k_1397 : (Jvm.Cond.instanceMethod ({ cls := "MachineLoom$Tokens", name := "close", desc := "(I)I" } : Jvm.MethodName)) ∈ ma := ma_of (tb_6 _ (List.mem_of_getElem? (i := 197) rfl)) rfl
theorem k_1398 : (Jvm.Cond.selects "MachineLoom$Tokens" ({ cls := "MachineLoom$Tokens", name := "close", desc := "(I)I" } : Jvm.MethodName) ({ cls := "MachineLoom$Tokens", name := "close", desc := "(I)I" } : Jvm.MethodName)) ∈ ma := ma_of (tb_6 _ (List.mem_of_getElem? (i := 198) rfl)) rfl
theorem d_Exprs_part_0 : decode b_Exprs_part 0 = .ok (.aload_n 0, 1) := by decide +kernel
theorem d_Exprs_part_1 : decode b_Exprs_part 1 = .ok (.getfield 27, 3) := by decide +kernel
theorem d_Exprs_part_4 : decode b_Exprs_part 4 = .ok (.bipush 91, 2) := by decide +kernel
theorem d_Exprs_part_6 : decode b_Exprs_part 6 = .ok (.invokevirtual 61, 3) := by decide +kernel
theorem d_Exprs_part_9 : decode b_Exprs_part 9 = .ok (.pop, 1) := by decide +kernel
theorem d_Exprs_part_10 : decode b_Exprs_part 10 = .ok (.aload_n 0, 1) := by decide +kernel
theorem d_Exprs_part_11 : decode b_Exprs_part 11 = .ok (.getfield 27, 3) := by decide +kernel
theorem d_Exprs_part_14 : decode b_Exprs_part 14 = .ok (.iconst 4, 1) := by decide +kernel
theorem d_Exprs_part_15 : decode b_Exprs_part 15 = .ok (.invokevirtual 82, 3) := by decide +kernel
theorem d_Exprs_part_18 : decode b_Exprs_part 18 = .ok (.istore_n 1, 1) := by decide +kernel
theorem d_Exprs_part_19 : decode b_Exprs_part 19 = .ok (.iload_n 1, 1) := by decide +kernel
theorem d_Exprs_part_20 : decode b_Exprs_part 20 = .ok (.istore_n 2, 1) := by decide +kernel
theorem d_Exprs_part_21 : decode b_Exprs_part 21 = .ok (.aload_n 0, 1) := by decide +kernel
theorem d_Exprs_part_22 : decode b_Exprs_part 22 = .ok (.getfield 27, 3) := by decide +kernel
theorem d_Exprs_part_25 : decode b_Exprs_part 25 = .ok (.invokevirtual 57, 3) := by decide +kernel
theorem d_Exprs_part_28 : decode b_Exprs_part 28 = .ok (.bipush 58, 2) := by decide +kernel
theorem d_Exprs_part_30 : decode b_Exprs_part 30 = .ok (.if_icmp .ne (22), 3) := by decide +kernel
theorem d_Exprs_part_33 : decode b_Exprs_part 33 = .ok (.aload_n 0, 1) := by decide +kernel
theorem d_Exprs_part_34 : decode b_Exprs_part 34 = .ok (.getfield 27, 3) := by decide +kernel
theorem d_Exprs_part_37 : decode b_Exprs_part 37 = .ok (.bipush 58, 2) := by decide +kernel
theorem d_Exprs_part_39 : decode b_Exprs_part 39 = .ok (.invokevirtual 82, 3) := by decide +kernel
theorem d_Exprs_part_42 : decode b_Exprs_part 42 = .ok (.pop, 1) := by decide +kernel
theorem d_Exprs_part_43 : decode b_Exprs_part 43 = .ok (.aload_n 0, 1) := by decide +kernel
theorem d_Exprs_part_44 : decode b_Exprs_part 44 = .ok (.getfield 27, 3) := by decide +kernel
theorem d_Exprs_part_47 : decode b_Exprs_part 47 = .ok (.iconst 4, 1) := by decide +kernel
theorem d_Exprs_part_48 : decode b_Exprs_part 48 = .ok (.invokevirtual 82, 3) := by decide +kernel
theorem d_Exprs_part_51 : decode b_Exprs_part 51 = .ok (.istore_n 2, 1) := by decide +kernel
theorem d_Exprs_part_52 : decode b_Exprs_part 52 = .ok (.aload_n 0, 1) := by decide +kernel
theorem d_Exprs_part_53 : decode b_Exprs_part 53 = .ok (.getfield 27, 3) := by decide +kernel
theorem d_Exprs_part_56 : decode b_Exprs_part 56 = .ok (.bipush 93, 2) := by decide +kernel
theorem d_Exprs_part_58 : decode b_Exprs_part 58 = .ok (.invokevirtual 161, 3) := by decide +kernel
theorem d_Exprs_part_61 : decode b_Exprs_part 61 = .ok (.pop, 1) := by decide +kernel
theorem d_Exprs_part_62 : decode b_Exprs_part 62 = .ok (.aload_n 0, 1) := by decide +kernel
theorem d_Exprs_part_63 : decode b_Exprs_part 63 = .ok (.invokevirtual 164, 3) := by decide +kernel
theorem d_Exprs_part_66 : decode b_Exprs_part 66 = .ok (.istore_n 3, 1) := by decide +kernel
theorem d_Exprs_part_67 : decode b_Exprs_part 67 = .ok (.aload_n 0, 1) := by decide +kernel
theorem d_Exprs_part_68 : decode b_Exprs_part 68 = .ok (.getfield 27, 3) := by decide +kernel
theorem d_Exprs_part_71 : decode b_Exprs_part 71 = .ok (.getfield 85, 3) := by decide +kernel
theorem d_Exprs_part_74 : decode b_Exprs_part 74 = .ok (.iload_n 1, 1) := by decide +kernel
theorem d_Exprs_part_75 : decode b_Exprs_part 75 = .ok (.laload, 1) := by decide +kernel
theorem d_Exprs_part_76 : decode b_Exprs_part 76 = .ok (.lstore 4, 2) := by decide +kernel
theorem d_Exprs_part_78 : decode b_Exprs_part 78 = .ok (.aload_n 0, 1) := by decide +kernel
theorem d_Exprs_part_79 : decode b_Exprs_part 79 = .ok (.getfield 27, 3) := by decide +kernel
theorem d_Exprs_part_82 : decode b_Exprs_part 82 = .ok (.getfield 85, 3) := by decide +kernel
theorem d_Exprs_part_85 : decode b_Exprs_part 85 = .ok (.iload_n 2, 1) := by decide +kernel
theorem d_Exprs_part_86 : decode b_Exprs_part 86 = .ok (.laload, 1) := by decide +kernel
theorem d_Exprs_part_87 : decode b_Exprs_part 87 = .ok (.lstore 6, 2) := by decide +kernel
theorem d_Exprs_part_89 : decode b_Exprs_part 89 = .ok (.iload_n 3, 1) := by decide +kernel
theorem d_Exprs_part_90 : decode b_Exprs_part 90 = .ok (.ifCond .le (22), 3) := by decide +kernel
theorem d_Exprs_part_93 : decode b_Exprs_part 93 = .ok (.lload 4, 2) := by decide +kernel
theorem d_Exprs_part_95 : decode b_Exprs_part 95 = .ok (.lconst 0, 1) := by decide +kernel
theorem d_Exprs_part_96 : decode b_Exprs_part 96 = .ok (.lcmp, 1) := by decide +kernel
theorem d_Exprs_part_97 : decode b_Exprs_part 97 = .ok (.ifCond .lt (11), 3) := by decide +kernel
theorem d_Exprs_part_100 : decode b_Exprs_part 100 = .ok (.lload 4, 2) := by decide +kernel
theorem d_Exprs_part_102 : decode b_Exprs_part 102 = .ok (.iload_n 3, 1) := by decide +kernel
theorem d_Exprs_part_103 : decode b_Exprs_part 103 = .ok (.i2l, 1) := by decide +kernel
theorem d_Exprs_part_104 : decode b_Exprs_part 104 = .ok (.lcmp, 1) := by decide +kernel
theorem d_Exprs_part_105 : decode b_Exprs_part 105 = .ok (.ifCond .lt (7), 3) := by decide +kernel
theorem d_Exprs_part_108 : decode b_Exprs_part 108 = .ok (.iconst 1, 1) := by decide +kernel
theorem d_Exprs_part_109 : decode b_Exprs_part 109 = .ok (.goto (4), 3) := by decide +kernel
theorem d_Exprs_part_112 : decode b_Exprs_part 112 = .ok (.iconst 0, 1) := by decide +kernel
theorem d_Exprs_part_113 : decode b_Exprs_part 113 = .ok (.istore 8, 2) := by decide +kernel
theorem d_Exprs_part_115 : decode b_Exprs_part 115 = .ok (.lload 4, 2) := by decide +kernel
theorem d_Exprs_part_117 : decode b_Exprs_part 117 = .ok (.lload 6, 2) := by decide +kernel
theorem d_Exprs_part_119 : decode b_Exprs_part 119 = .ok (.invokestatic 167, 3) := by decide +kernel
theorem d_Exprs_part_122 : decode b_Exprs_part 122 = .ok (.istore 9, 2) := by decide +kernel
theorem d_Exprs_part_124 : decode b_Exprs_part 124 = .ok (.iload 8, 2) := by decide +kernel
theorem d_Exprs_part_126 : decode b_Exprs_part 126 = .ok (.ifCond .eq (9), 3) := by decide +kernel
theorem d_Exprs_part_129 : decode b_Exprs_part 129 = .ok (.aload_n 0, 1) := by decide +kernel
theorem d_Exprs_part_130 : decode b_Exprs_part 130 = .ok (.iload_n 1, 1) := by decide +kernel
theorem d_Exprs_part_131 : decode b_Exprs_part 131 = .ok (.iconst 3, 1) := by decide +kernel
theorem d_Exprs_part_132 : decode b_Exprs_part 132 = .ok (.invokevirtual 101, 3) := by decide +kernel
theorem d_Exprs_part_135 : decode b_Exprs_part 135 = .ok (.iload 9, 2) := by decide +kernel
theorem d_Exprs_part_137 : decode b_Exprs_part 137 = .ok (.ifCond .eq (9), 3) := by decide +kernel
theorem d_Exprs_part_140 : decode b_Exprs_part 140 = .ok (.aload_n 0, 1) := by decide +kernel
theorem d_Exprs_part_141 : decode b_Exprs_part 141 = .ok (.iload_n 2, 1) := by decide +kernel
theorem d_Exprs_part_142 : decode b_Exprs_part 142 = .ok (.iconst 3, 1) := by decide +kernel
theorem d_Exprs_part_143 : decode b_Exprs_part 143 = .ok (.invokevirtual 101, 3) := by decide +kernel
theorem d_Exprs_part_146 : decode b_Exprs_part 146 = .ok (.iload_n 3, 1) := by decide +kernel
theorem d_Exprs_part_147 : decode b_Exprs_part 147 = .ok (.ifCond .eq (13), 3) := by decide +kernel
theorem d_Exprs_part_150 : decode b_Exprs_part 150 = .ok (.iload 8, 2) := by decide +kernel
theorem d_Exprs_part_152 : decode b_Exprs_part 152 = .ok (.ifCond .ne (8), 3) := by decide +kernel
theorem d_Exprs_part_155 : decode b_Exprs_part 155 = .ok (.iload 9, 2) := by decide +kernel
theorem d_Exprs_part_157 : decode b_Exprs_part 157 = .ok (.ifCond .eq (7), 3) := by decide +kernel
theorem d_Exprs_part_160 : decode b_Exprs_part 160 = .ok (.iconst 1, 1) := by decide +kernel
theorem d_Exprs_part_161 : decode b_Exprs_part 161 = .ok (.goto (4), 3) := by decide +kernel
theorem d_Exprs_part_164 : decode b_Exprs_part 164 = .ok (.iconst 0, 1) := by decide +kernel
theorem d_Exprs_part_165 : decode b_Exprs_part 165 = .ok (.istore 10, 2) := by decide +kernel
theorem d_Exprs_part_167 : decode b_Exprs_part 167 = .ok (.iload 10, 2) := by decide +kernel
theorem d_Exprs_part_169 : decode b_Exprs_part 169 = .ok (.ifCond .eq (7), 3) := by decide +kernel
theorem d_Exprs_part_172 : decode b_Exprs_part 172 = .ok (.iconst 0, 1) := by decide +kernel
theorem d_Exprs_part_173 : decode b_Exprs_part 173 = .ok (.goto (11), 3) := by decide +kernel
theorem d_Exprs_part_176 : decode b_Exprs_part 176 = .ok (.lload 4, 2) := by decide +kernel
theorem d_Exprs_part_178 : decode b_Exprs_part 178 = .ok (.lload 6, 2) := by decide +kernel
theorem d_Exprs_part_180 : decode b_Exprs_part 180 = .ok (.lsub, 1) := by decide +kernel
theorem d_Exprs_part_181 : decode b_Exprs_part 181 = .ok (.l2i, 1) := by decide +kernel
theorem d_Exprs_part_182 : decode b_Exprs_part 182 = .ok (.iconst 1, 1) := by decide +kernel
theorem d_Exprs_part_183 : decode b_Exprs_part 183 = .ok (.iadd, 1) := by decide +kernel
theorem d_Exprs_part_184 : decode b_Exprs_part 184 = .ok (.istore 11, 2) := by decide +kernel
theorem d_Exprs_part_186 : decode b_Exprs_part 186 = .ok (.aload_n 0, 1) := by decide +kernel
theorem d_Exprs_part_187 : decode b_Exprs_part 187 = .ok (.getfield 89, 3) := by decide +kernel
theorem d_Exprs_part_190 : decode b_Exprs_part 190 = .ok (.sipush 308, 3) := by decide +kernel
theorem d_Exprs_part_193 : decode b_Exprs_part 193 = .ok (.lload 6, 2) := by decide +kernel
theorem d_Exprs_part_195 : decode b_Exprs_part 195 = .ok (.ldc2_w 171, 3) := by decide +kernel
theorem d_Exprs_part_198 : decode b_Exprs_part 198 = .ok (.land, 1) := by decide +kernel
theorem d_Exprs_part_199 : decode b_Exprs_part 199 = .ok (.iload 11, 2) := by decide +kernel
theorem d_Exprs_part_201 : decode b_Exprs_part 201 = .ok (.i2l, 1) := by decide +kernel
theorem d_Exprs_part_202 : decode b_Exprs_part 202 = .ok (.bipush 8, 2) := by decide +kernel
theorem d_Exprs_part_204 : decode b_Exprs_part 204 = .ok (.lshl, 1) := by decide +kernel
theorem d_Exprs_part_205 : decode b_Exprs_part 205 = .ok (.lor, 1) := by decide +kernel
theorem d_Exprs_part_206 : decode b_Exprs_part 206 = .ok (.invokevirtual 93, 3) := by decide +kernel
theorem d_Exprs_part_209 : decode b_Exprs_part 209 = .ok (.pop, 1) := by decide +kernel
theorem d_Exprs_part_210 : decode b_Exprs_part 210 = .ok (.aload_n 0, 1) := by decide +kernel
theorem d_Exprs_part_211 : decode b_Exprs_part 211 = .ok (.iload 11, 2) := by decide +kernel
theorem d_Exprs_part_213 : decode b_Exprs_part 213 = .ok (.invokevirtual 102, 3) := by decide +kernel
theorem d_Exprs_part_216 : decode b_Exprs_part 216 = .ok (.return_, 1) := by decide +kernel
set_option maxHeartbeats 4000000 in
set_option maxRecDepth 100000 in
theorem c_Exprs_part_a (l : Launch) {dA : FieldType → ClassId} {D : va_G} {al : Nat → Nat} {ext : mv_Sh} {sk sv : Nat → Nat} (hi : mv_inj (mg dA D al ext)) (σ : mv_H) {t len n z sz th sl e0 bs ns : Nat} {BL : (Nat → Nat) → Prop} {f0 : Nat → Int32} {g0 : Nat → Int64} {ms : List Mk} {s0 bd a : Nat} (hB0 : SB 32 σ t len n z sz th sl) (ht2 : t = 1 ∨ t = 144) (hX : XM 32 th e0 bs BL f0 g0 ns σ (ms) (sm wt ms + 1) (sm wr ms + 1) (s0)) (hI : TI σ sz bd ms s0 a) (hlen : len ≤ 32768) (hbs : bs ≤ 1) (hk3 : mv_a σ 4 (mv_i σ 3 7).toNatClampNeg = 91) : mv_C l y_Exprs_part (Cond.code y_Exprs_part b_Exprs_part 12 (Option.none : Option Jvm.ClassFile.FieldType) :: ma) ({ frames := 3, cells := 0, slots := 0, locals := 63 }) (mg dA D al ext) (mK sk sv) [.ref (al 22)] σ (mv_Rv (fun σ1 => RF 32 σ σ1 ∧ Mt (mv_a σ1 24) ∧ (0 ≤ (mv_i σ1 3 9).toInt ∨ ∃ ms2 s2 a2, a < a2 ∧ XM 32 th e0 bs BL f0 g0 ns σ1 (ms2) (sm wt ms2 + 1) (sm wr ms2 + 1) (s2) ∧ TI σ1 sz bd ms2 s2 a2))) := by
  refine mv_C.ofV (cc := b_Exprs_part) (nL := 12) (ret := (Option.none : Option Jvm.ClassFile.FieldType)) (by decide +kernel) rfl hi (Nat.le_of_ble_eq_true rfl) ?_
  intro p e s m below meth c B hNs hr hnm hno
  have hP : PQ 32 := by unfold PQ; omega
  have hR := hB0.1
  have hF : RF 32 σ σ := RF0
  have hT : mv_i σ 3 = mv_i σ 3 := rfl
  have hsz := hB0.2.1.2.2.2.2.2
  have hsz2 := hB0.2.1.2.2.2.1
  have hI5 := hI.2.2.2.2.1
  have ha9 := hI.2.2.2.2.2.1
  have pl := hI.len hX
  have hm8 := hX.1.1
  have t7 := hI.1
  have hw9 := hI.2.1
  have t9 : (mv_i σ 3 9).toInt = (mv_i σ 3 9).toInt := rfl
  have hd8 := hI.2.2.1
  have hd9 := hI.2.2.2.1
  have hWm := hI.2.2.2.2.2.2
  have kp : mv_a σ 4 = mv_a σ 4 := rfl
  have t8 : (mv_i σ 3 8).toInt = (mv_i σ 3 8).toInt := rfl
  have j184 : ∀ (υ : mv_H) (wi : Int32) (lo : Int64) (hR : Rw 32 (mv_r υ)) (hF : RF 32 σ υ) (hX : XM 32 th e0 bs BL f0 g0 ns υ (ms) (sm wt ms) (sm wr ms + 1) (s0)) (t8 : (mv_i υ 3 8).toInt = (mv_i σ 3 8).toInt) (t7 : 1 ≤ (mv_i υ 3 7).toInt ∧ (mv_i υ 3 7).toInt < sz ∧ ((mv_i υ 3 9).toInt < 0 → a + 2 ≤ (mv_i υ 3 7).toInt)), mv_V p l e ({ frames := 3, cells := 0, slots := 0, locals := 63 }) s m ([.ref (al 22)] : List Value).toArray below meth c (mg dA D al ext) 12 0 0 (mv_Q (mg dA D al ext) below s 0 0 (mv_Rv (fun σ1 => RF 32 σ σ1 ∧ Mt (mv_a σ1 24) ∧ (0 ≤ (mv_i σ1 3 9).toInt ∨ ∃ ms2 s2 a2, a < a2 ∧ XM 32 th e0 bs BL f0 g0 ns σ1 (ms2) (sm wt ms2 + 1) (sm wr ms2 + 1) (s2) ∧ TI σ1 sz bd ms2 s2 a2)))) υ 184 [(6, .long lo), (0, .ref (al 22))] [.int wi] := by
    intro υ wi lo hR hF hX t8 t7
    refine mv_istore (pc := 184) B d_Exprs_part_184 (by decide) rfl ?_
    refine mv_aload_n (pc := 186) B d_Exprs_part_186 rfl 2 rfl ?_
    refine mv_getR (pc := 187) (ci := 6) (C := R_Exprs) (T := F_Exprs) (N := 11) B 3 rfl rfl (by decide) i_Exprs (B.2.2.2.1 _ k_197) rfl hR.2.2.2 d_Exprs_part_187 ?_
    refine mv_sipush (pc := 190) (v := 308) B d_Exprs_part_190 (by decide) ?_
    refine mv_lload (pc := 193) B d_Exprs_part_193 1 rfl ?_
    refine mv_ldc2 (pc := 195) (v := 255) B (B.2.2.2.1 _ k_1477) d_Exprs_part_195 ?_
    refine mv_land (pc := 198) B d_Exprs_part_198 ?_
    refine mv_iload (pc := 199) B d_Exprs_part_199 0 rfl ?_
    refine mv_i2l (pc := 201) B d_Exprs_part_201 ?_
    refine mv_bipush (pc := 202) (v := 8) B d_Exprs_part_202 (by decide) ?_
    refine mv_lshl (pc := 204) B d_Exprs_part_204 ?_
    refine mv_lor (pc := 205) B d_Exprs_part_205 ?_
    refine mv_callVi (pc := 206) (n := 2) (ci := 7) (C := R_Program) B (mK_ok sk sv) hNs rfl rfl (c_Program_emit_a l hi _ _ _ hR.2.1 (by have := hX.2.1.1; omega) (by have := hX.2.1.1; omega)) rfl (ma_goodc kc_Program_emit) (B.2.2.2.1 _ k_1425) (B.2.2.2.1 _ k_1385) (B.2.2.2.1 _ k_1386) (B.2.2.2.1 _ k_8) ⟨by decide +kernel, by decide +kernel, by decide +kernel⟩ rfl d_Exprs_part_206 rfl (Nat.le_of_ble_eq_true rfl) ⟨by decide, by decide⟩ ⟨by decide, by decide⟩ ⟨by decide, by decide⟩ (mv_noH hno _) (fun v206 σ206 h206 => ?_)
    obtain ⟨e206, -⟩ := h206
    subst e206
    refine mv_gen (fun S209 eS209 => ?_)
    have hR : Rw 32 (mv_r S209) := by rw [eS209]; exact hR
    have hF : RF 32 σ S209 := by rw [eS209]; exact hF.emit _ _
    have hX : XM 32 th e0 bs BL f0 g0 ns S209 (ms) (sm wt ms) (sm wr ms + 1) (s0 + 1) := by rw [eS209]; exact hX.emit0 hP (by omega) (sm wr ms + 1) (by decide) (by decide) (Op1_one (Or.inl rfl) th _ (bs + sm wr ms)) (by omega)
    have t7 : 1 ≤ (mv_i S209 3 7).toInt ∧ (mv_i S209 3 7).toInt < sz ∧ ((mv_i S209 3 9).toInt < 0 → a + 2 ≤ (mv_i S209 3 7).toInt) := by rw [eS209]; exact t7
    have t8 : (mv_i S209 3 8).toInt = (mv_i σ 3 8).toInt := by rw [eS209]; exact t8
    clear eS209
    refine mv_pop (pc := 209) B d_Exprs_part_209 rfl ?_
    refine mv_aload_n (pc := 210) B d_Exprs_part_210 rfl 2 rfl ?_
    refine mv_iload (pc := 211) B d_Exprs_part_211 0 rfl ?_
    refine mv_callVv (pc := 213) (n := 1) (ci := 6) (C := R_Exprs) B (mK_ok sk sv) hNs rfl rfl (c_Exprs_hold l hi _ _ hR.1 (by have := hX.1.2.2.1; omega) (by have := hX.1.2.2.1; omega)) rfl (ma_goodc kc_Exprs_hold) (B.2.2.2.1 _ k_1432) (B.2.2.2.1 _ k_1434) (B.2.2.2.1 _ ks_51) (B.2.2.2.1 _ k_7) ⟨by decide +kernel, by decide +kernel, by decide +kernel⟩ rfl d_Exprs_part_213 rfl (Nat.le_of_ble_eq_true rfl) ⟨by decide, by decide⟩ ⟨by decide, by decide⟩ ⟨by decide, by decide⟩ (mv_noH hno _) (fun σ213 h213 => ?_)
    subst h213
    refine mv_gen (fun S216 eS216 => ?_)
    have hR : Rw 32 (mv_r S216) := by rw [eS216]; exact hR
    have hF : RF 32 σ S216 := by rw [eS216]; exact hF.hold _
    have hX : XM 32 th e0 bs BL f0 g0 ns S216 (ms) (sm wt ms + 1) (sm wr ms + 1) (s0 + 1) := by rw [eS216]; exact hX.hold hP (by omega) _
    have t7 : 1 ≤ (mv_i S216 3 7).toInt ∧ (mv_i S216 3 7).toInt < sz ∧ ((mv_i S216 3 9).toInt < 0 → a + 2 ≤ (mv_i S216 3 7).toInt) := by rw [eS216]; exact t7
    have t8 : (mv_i S216 3 8).toInt = (mv_i σ 3 8).toInt := by rw [eS216]; exact t8
    have hend : 0 ≤ (mv_i S216 3 9).toInt ∨ ∃ ms2 s2 a2, a < a2 ∧ XM 32 th e0 bs BL f0 g0 ns S216 (ms2) (sm wt ms2 + 1) (sm wr ms2 + 1) (s2) ∧ TI S216 sz bd ms2 s2 a2 := by
      by_cases hw : (mv_i S216 3 9).toInt < 0
      · exact Or.inr ⟨ms, s0 + 1, (mv_i S216 3 7).toInt.toNat, by omega, hX, by omega, hw, by omega, by omega, by omega, by omega, hWm.up (by omega)⟩
      · exact Or.inl (by omega)
    clear eS216
    exact mv_vret (pc := 216) B hr d_Exprs_part_216 (Nat.le_refl _) (Nat.le_refl _) ⟨rfl, hF, hX.1.2.2.2.1, hend⟩
  have j165 : ∀ (υ : mv_H) (fl : Int32) (hg9 : Int64) (lo : Int64) (hR : Rw 32 (mv_r υ)) (hF : RF 32 σ υ) (hX : XM 32 th e0 bs BL f0 g0 ns υ (ms) (sm wt ms) (sm wr ms + 1) (s0)) (t8 : (mv_i υ 3 8).toInt = (mv_i σ 3 8).toInt) (t7 : 1 ≤ (mv_i υ 3 7).toInt ∧ (mv_i υ 3 7).toInt < sz ∧ ((mv_i υ 3 9).toInt < 0 → a + 2 ≤ (mv_i υ 3 7).toInt)), mv_V p l e ({ frames := 3, cells := 0, slots := 0, locals := 63 }) s m ([.ref (al 22)] : List Value).toArray below meth c (mg dA D al ext) 12 0 0 (mv_Q (mg dA D al ext) below s 0 0 (mv_Rv (fun σ1 => RF 32 σ σ1 ∧ Mt (mv_a σ1 24) ∧ (0 ≤ (mv_i σ1 3 9).toInt ∨ ∃ ms2 s2 a2, a < a2 ∧ XM 32 th e0 bs BL f0 g0 ns σ1 (ms2) (sm wt ms2 + 1) (sm wr ms2 + 1) (s2) ∧ TI σ1 sz bd ms2 s2 a2)))) υ 165 [(4, .long hg9), (6, .long lo), (0, .ref (al 22))] [.int fl] := by
    intro υ fl hg9 lo hR hF hX t8 t7
    refine mv_istore (pc := 165) B d_Exprs_part_165 (by decide) rfl ?_
    refine mv_iload (pc := 167) B d_Exprs_part_167 0 rfl ?_
    refine mv_if_eq (pc := 169) (tgt := 176) B d_Exprs_part_169 rfl (fun h169 => ?_) (fun h169 => ?_)
    · skip
      refine mv_lload (pc := 176) B d_Exprs_part_176 1 rfl ?_
      refine mv_lload (pc := 178) B d_Exprs_part_178 2 rfl ?_
      refine mv_lsub (pc := 180) B d_Exprs_part_180 ?_
      refine mv_l2i (pc := 181) B d_Exprs_part_181 ?_
      refine mv_iconst (pc := 182) (v := 1) B d_Exprs_part_182 (by decide) ?_
      refine mv_iadd (pc := 183) B d_Exprs_part_183 ?_
      refine mv_lpick [2, 3] rfl ?_
      exact j184 _ _ _ hR hF hX t8 t7
    · skip
      refine mv_iconst (pc := 172) (v := 0) B d_Exprs_part_172 (by decide) ?_
      refine mv_goto (pc := 173) (tgt := 184) B d_Exprs_part_173 rfl ?_
      refine mv_lpick [2, 3] rfl ?_
      exact j184 _ _ _ hR hF hX t8 t7
  have j146 : ∀ (υ : mv_H) (wd9 : Int32) (hg9 : Int64) (lo : Int64) (f8 : Int32) (f9 : Int32) (hR : Rw 32 (mv_r υ)) (hF : RF 32 σ υ) (hX : XM 32 th e0 bs BL f0 g0 ns υ (ms) (sm wt ms) (sm wr ms + 1) (s0)) (t8 : (mv_i υ 3 8).toInt = (mv_i σ 3 8).toInt) (t7 : 1 ≤ (mv_i υ 3 7).toInt ∧ (mv_i υ 3 7).toInt < sz ∧ ((mv_i υ 3 9).toInt < 0 → a + 2 ≤ (mv_i υ 3 7).toInt)), mv_V p l e ({ frames := 3, cells := 0, slots := 0, locals := 63 }) s m ([.ref (al 22)] : List Value).toArray below meth c (mg dA D al ext) 12 0 0 (mv_Q (mg dA D al ext) below s 0 0 (mv_Rv (fun σ1 => RF 32 σ σ1 ∧ Mt (mv_a σ1 24) ∧ (0 ≤ (mv_i σ1 3 9).toInt ∨ ∃ ms2 s2 a2, a < a2 ∧ XM 32 th e0 bs BL f0 g0 ns σ1 (ms2) (sm wt ms2 + 1) (sm wr ms2 + 1) (s2) ∧ TI σ1 sz bd ms2 s2 a2)))) υ 146 [(3, .int wd9), (4, .long hg9), (6, .long lo), (8, .int f8), (9, .int f9), (0, .ref (al 22))] [] := by
    intro υ wd9 hg9 lo f8 f9 hR hF hX t8 t7
    refine mv_iload_n (pc := 146) B d_Exprs_part_146 rfl 0 rfl ?_
    refine mv_if_eq (pc := 147) (tgt := 160) B d_Exprs_part_147 rfl (fun h147 => ?_) (fun h147 => ?_)
    · skip
      refine mv_iconst (pc := 160) (v := 1) B d_Exprs_part_160 (by decide) ?_
      refine mv_goto (pc := 161) (tgt := 165) B d_Exprs_part_161 rfl ?_
      refine mv_lpick [1, 2, 5] rfl ?_
      exact j165 _ _ _ _ hR hF hX t8 t7
    · skip
      refine mv_iload (pc := 150) B d_Exprs_part_150 3 rfl ?_
      refine mv_if_ne (pc := 152) (tgt := 160) B d_Exprs_part_152 rfl (fun h152 => ?_) (fun h152 => ?_)
      · skip
        refine mv_iconst (pc := 160) (v := 1) B d_Exprs_part_160 (by decide) ?_
        refine mv_goto (pc := 161) (tgt := 165) B d_Exprs_part_161 rfl ?_
        refine mv_lpick [1, 2, 5] rfl ?_
        exact j165 _ _ _ _ hR hF hX t8 t7
      · skip
        refine mv_iload (pc := 155) B d_Exprs_part_155 4 rfl ?_
        refine mv_if_eq (pc := 157) (tgt := 164) B d_Exprs_part_157 rfl (fun h157 => ?_) (fun h157 => ?_)
        · skip
          refine mv_iconst (pc := 164) (v := 0) B d_Exprs_part_164 (by decide) ?_
          refine mv_lpick [1, 2, 5] rfl ?_
          exact j165 _ _ _ _ hR hF hX t8 t7
        · skip
          refine mv_iconst (pc := 160) (v := 1) B d_Exprs_part_160 (by decide) ?_
          refine mv_goto (pc := 161) (tgt := 165) B d_Exprs_part_161 rfl ?_
          refine mv_lpick [1, 2, 5] rfl ?_
          exact j165 _ _ _ _ hR hF hX t8 t7
  have j135 : ∀ (υ : mv_H) (wd9 : Int32) (hg9 : Int64) (lo : Int64) (f8 : Int32) (f9 : Int32) (tk2 : Int32) (hR : Rw 32 (mv_r υ)) (hF : RF 32 σ υ) (hX : XM 32 th e0 bs BL f0 g0 ns υ (ms) (sm wt ms) (sm wr ms + 1) (s0)) (t8 : (mv_i υ 3 8).toInt = (mv_i σ 3 8).toInt) (t7 : 1 ≤ (mv_i υ 3 7).toInt ∧ (mv_i υ 3 7).toInt < sz ∧ ((mv_i υ 3 9).toInt < 0 → a + 2 ≤ (mv_i υ 3 7).toInt)) (b2 : 0 ≤ tk2.toInt ∧ tk2.toInt < sz), mv_V p l e ({ frames := 3, cells := 0, slots := 0, locals := 63 }) s m ([.ref (al 22)] : List Value).toArray below meth c (mg dA D al ext) 12 0 0 (mv_Q (mg dA D al ext) below s 0 0 (mv_Rv (fun σ1 => RF 32 σ σ1 ∧ Mt (mv_a σ1 24) ∧ (0 ≤ (mv_i σ1 3 9).toInt ∨ ∃ ms2 s2 a2, a < a2 ∧ XM 32 th e0 bs BL f0 g0 ns σ1 (ms2) (sm wt ms2 + 1) (sm wr ms2 + 1) (s2) ∧ TI σ1 sz bd ms2 s2 a2)))) υ 135 [(3, .int wd9), (4, .long hg9), (6, .long lo), (8, .int f8), (9, .int f9), (0, .ref (al 22)), (2, .int tk2)] [] := by
    intro υ wd9 hg9 lo f8 f9 tk2 hR hF hX t8 t7 b2
    refine mv_iload (pc := 135) B d_Exprs_part_135 4 rfl ?_
    refine mv_if_eq (pc := 137) (tgt := 146) B d_Exprs_part_137 rfl (fun h137 => ?_) (fun h137 => ?_)
    · skip
      refine mv_lpick [0, 1, 2, 3, 4, 5] rfl ?_
      exact j146 _ _ _ _ _ _ hR hF hX t8 t7
    · skip
      refine mv_aload_n (pc := 140) B d_Exprs_part_140 rfl 5 rfl ?_
      refine mv_iload_n (pc := 141) B d_Exprs_part_141 rfl 6 rfl ?_
      refine mv_iconst (pc := 142) (v := 3) B d_Exprs_part_142 (by decide) ?_
      refine mv_callVv (pc := 143) (n := 2) (ci := 6) (C := R_Exprs) B (mK_ok sk sv) hNs rfl rfl (c_Exprs_tell l hi _ _ _ hR.1 b2.1 (by omega) (by decide)) rfl (ma_goodc kc_Exprs_tell) (B.2.2.2.1 _ k_1427) (B.2.2.2.1 _ k_1429) (B.2.2.2.1 _ ks_50) (B.2.2.2.1 _ k_7) ⟨by decide +kernel, by decide +kernel, by decide +kernel⟩ rfl d_Exprs_part_143 rfl (Nat.le_of_ble_eq_true rfl) ⟨by decide, by decide⟩ ⟨by decide, by decide⟩ ⟨by decide, by decide⟩ (mv_noH hno _) (fun σ143 h143 => ?_)
      obtain ⟨x9, y9, e143, z143⟩ := h143
      subst e143
      refine mv_gen (fun S146 eS146 => ?_)
      have hR : Rw 32 (mv_r S146) := by rw [eS146]; exact hR
      have hF : RF 32 σ S146 := by rw [eS146]; exact hF.tell _ _
      have hX : XM 32 th e0 bs BL f0 g0 ns S146 (ms) (sm wt ms) (sm wr ms + 1) (s0) := by rw [eS146]; exact hX.tell hP z143 _ _
      have t7 : 1 ≤ (mv_i S146 3 7).toInt ∧ (mv_i S146 3 7).toInt < sz ∧ ((mv_i S146 3 9).toInt < 0 → a + 2 ≤ (mv_i S146 3 7).toInt) := by rw [eS146]; exact t7
      have t8 : (mv_i S146 3 8).toInt = (mv_i σ 3 8).toInt := by rw [eS146]; exact t8
      clear eS146
      refine mv_lpick [0, 1, 2, 3, 4, 5] rfl ?_
      exact j146 _ _ _ _ _ _ hR hF hX t8 t7
  have j113 : ∀ (υ : mv_H) (fl : Int32) (wd9 : Int32) (hg9 : Int64) (lo : Int64) (tk1 : Int32) (tk2 : Int32) (hR : Rw 32 (mv_r υ)) (hF : RF 32 σ υ) (hX : XM 32 th e0 bs BL f0 g0 ns υ (ms) (sm wt ms) (sm wr ms + 1) (s0)) (t8 : (mv_i υ 3 8).toInt = (mv_i σ 3 8).toInt) (t7 : 1 ≤ (mv_i υ 3 7).toInt ∧ (mv_i υ 3 7).toInt < sz ∧ ((mv_i υ 3 9).toInt < 0 → a + 2 ≤ (mv_i υ 3 7).toInt)) (b1 : 0 ≤ tk1.toInt ∧ tk1.toInt < sz) (b2 : 0 ≤ tk2.toInt ∧ tk2.toInt < sz), mv_V p l e ({ frames := 3, cells := 0, slots := 0, locals := 63 }) s m ([.ref (al 22)] : List Value).toArray below meth c (mg dA D al ext) 12 0 0 (mv_Q (mg dA D al ext) below s 0 0 (mv_Rv (fun σ1 => RF 32 σ σ1 ∧ Mt (mv_a σ1 24) ∧ (0 ≤ (mv_i σ1 3 9).toInt ∨ ∃ ms2 s2 a2, a < a2 ∧ XM 32 th e0 bs BL f0 g0 ns σ1 (ms2) (sm wt ms2 + 1) (sm wr ms2 + 1) (s2) ∧ TI σ1 sz bd ms2 s2 a2)))) υ 113 [(3, .int wd9), (4, .long hg9), (6, .long lo), (0, .ref (al 22)), (1, .int tk1), (2, .int tk2)] [.int fl] := by
    intro υ fl wd9 hg9 lo tk1 tk2 hR hF hX t8 t7 b1 b2
    refine mv_istore (pc := 113) B d_Exprs_part_113 (by decide) rfl ?_
    refine mv_lload (pc := 115) B d_Exprs_part_115 2 rfl ?_
    refine mv_lload (pc := 117) B d_Exprs_part_117 3 rfl ?_
    refine mv_callSi (pc := 119) (n := 2) B (mK_ok sk sv) hNs (c_Bits_below l hi _ _ _) rfl (ma_goodc kc_Bits_below) (B.2.2.2.1 _ k_1473) (B.2.2.2.1 _ k_1474) (B.2.2.2.1 _ k_33) ⟨by decide +kernel, by decide +kernel, by decide +kernel⟩ rfl d_Exprs_part_119 rfl (Nat.le_of_ble_eq_true rfl) ⟨by decide, by decide⟩ ⟨by decide, by decide⟩ ⟨by decide, by decide⟩ (mv_noH hno _) (fun v119 σ119 h119 => ?_)
    have h119 := (show _ = _ from by first | exact h119 | exact h119.1).symm
    subst h119
    refine mv_istore (pc := 122) B d_Exprs_part_122 (by decide) rfl ?_
    refine mv_iload (pc := 124) B d_Exprs_part_124 1 rfl ?_
    refine mv_if_eq (pc := 126) (tgt := 135) B d_Exprs_part_126 rfl (fun h126 => ?_) (fun h126 => ?_)
    · skip
      refine mv_lpick [2, 3, 4, 1, 0, 5, 7] rfl ?_
      exact j135 _ _ _ _ _ _ _ hR hF hX t8 t7 b2
    · skip
      refine mv_aload_n (pc := 129) B d_Exprs_part_129 rfl 5 rfl ?_
      refine mv_iload_n (pc := 130) B d_Exprs_part_130 rfl 6 rfl ?_
      refine mv_iconst (pc := 131) (v := 3) B d_Exprs_part_131 (by decide) ?_
      refine mv_callVv (pc := 132) (n := 2) (ci := 6) (C := R_Exprs) B (mK_ok sk sv) hNs rfl rfl (c_Exprs_tell l hi _ _ _ hR.1 b1.1 (by omega) (by decide)) rfl (ma_goodc kc_Exprs_tell) (B.2.2.2.1 _ k_1427) (B.2.2.2.1 _ k_1429) (B.2.2.2.1 _ ks_50) (B.2.2.2.1 _ k_7) ⟨by decide +kernel, by decide +kernel, by decide +kernel⟩ rfl d_Exprs_part_132 rfl (Nat.le_of_ble_eq_true rfl) ⟨by decide, by decide⟩ ⟨by decide, by decide⟩ ⟨by decide, by decide⟩ (mv_noH hno _) (fun σ132 h132 => ?_)
      obtain ⟨x9, y9, e132, z132⟩ := h132
      subst e132
      refine mv_gen (fun S135 eS135 => ?_)
      have hR : Rw 32 (mv_r S135) := by rw [eS135]; exact hR
      have hF : RF 32 σ S135 := by rw [eS135]; exact hF.tell _ _
      have hX : XM 32 th e0 bs BL f0 g0 ns S135 (ms) (sm wt ms) (sm wr ms + 1) (s0) := by rw [eS135]; exact hX.tell hP z132 _ _
      have t7 : 1 ≤ (mv_i S135 3 7).toInt ∧ (mv_i S135 3 7).toInt < sz ∧ ((mv_i S135 3 9).toInt < 0 → a + 2 ≤ (mv_i S135 3 7).toInt) := by rw [eS135]; exact t7
      have t8 : (mv_i S135 3 8).toInt = (mv_i σ 3 8).toInt := by rw [eS135]; exact t8
      clear eS135
      refine mv_lpick [2, 3, 4, 1, 0, 5, 7] rfl ?_
      exact j135 _ _ _ _ _ _ _ hR hF hX t8 t7 b2
  have j52 : ∀ (υ : mv_H) (tk1 : Int32) (tk2 : Int32) (hR : Rw 32 (mv_r υ)) (hF : RF 32 σ υ) (hX : XM 32 th e0 bs BL f0 g0 ns υ (ms) (sm wt ms + 1) (sm wr ms + 1) (s0)) (t8 : (mv_i υ 3 8).toInt = (mv_i σ 3 8).toInt + 1) (t7 : 1 ≤ (mv_i υ 3 7).toInt ∧ (mv_i υ 3 7).toInt < sz ∧ ((mv_i υ 3 9).toInt < 0 → a + 2 ≤ (mv_i υ 3 7).toInt)) (b1 : 0 ≤ tk1.toInt ∧ tk1.toInt < sz) (b2 : 0 ≤ tk2.toInt ∧ tk2.toInt < sz) (kp : mv_a υ 4 = mv_a σ 4), mv_V p l e ({ frames := 3, cells := 0, slots := 0, locals := 63 }) s m ([.ref (al 22)] : List Value).toArray below meth c (mg dA D al ext) 12 0 0 (mv_Q (mg dA D al ext) below s 0 0 (mv_Rv (fun σ1 => RF 32 σ σ1 ∧ Mt (mv_a σ1 24) ∧ (0 ≤ (mv_i σ1 3 9).toInt ∨ ∃ ms2 s2 a2, a < a2 ∧ XM 32 th e0 bs BL f0 g0 ns σ1 (ms2) (sm wt ms2 + 1) (sm wr ms2 + 1) (s2) ∧ TI σ1 sz bd ms2 s2 a2)))) υ 52 [(2, .int tk2), (1, .int tk1), (0, .ref (al 22))] [] := by
    intro υ tk1 tk2 hR hF hX t8 t7 b1 b2 kp
    refine mv_aload_n (pc := 52) B d_Exprs_part_52 rfl 2 rfl ?_
    refine mv_getR (pc := 53) (ci := 6) (C := R_Exprs) (T := F_Exprs) (N := 11) B 0 rfl rfl (by decide) i_Exprs (B.2.2.2.1 _ k_193) rfl (hR.1 _ 0 _ rfl) d_Exprs_part_53 ?_
    refine mv_bipush (pc := 56) (v := 93) B d_Exprs_part_56 (by decide) ?_
    refine mv_callVi (pc := 58) (n := 1) (ci := 2) (C := R_Tokens) B (mK_ok sk sv) hNs rfl rfl (c_Tokens_closeN l hi _ _ hR.1 (hB0.rf hF hP ht2).2.1 (by omega) (by omega) (by decide)) rfl (ma_goodc kc_Tokens_close) (B.2.2.2.1 _ k_1468) (B.2.2.2.1 _ k_1397) (B.2.2.2.1 _ k_1398) (B.2.2.2.1 _ k_3) ⟨by decide +kernel, by decide +kernel, by decide +kernel⟩ rfl d_Exprs_part_58 rfl (Nat.le_of_ble_eq_true rfl) ⟨by decide, by decide⟩ ⟨by decide, by decide⟩ ⟨by decide, by decide⟩ (mv_noH hno _) (fun v58 σ58 h58 => ?_)
    obtain ⟨a58, w58, e58, r58⟩ := h58
    have q58 := r58.1
    have z58 := fun q => (r58.2.1 q).1
    have y58 := And.intro r58.2.2.2.1 r58.2.2.2.2.1
    subst e58
    refine mv_gen (fun S61 eS61 => ?_)
    have hR : Rw 32 (mv_r S61) := by rw [eS61]; exact hR
    have hF : RF 32 σ S61 := by rw [eS61]; exact hF.tk3 _ _ _
    have hX : XM 32 th e0 bs BL f0 g0 ns S61 (ms) (sm wt ms + 1) (sm wr ms + 1) (s0) := by rw [eS61]; exact hX.tk3 hP _ _ _
    have t7 : (mv_i S61 3 7).toInt = a58.toInt := by rw [eS61]; rfl
    have t8 : (mv_i S61 3 8).toInt = (mv_i σ 3 8).toInt := by rw [eS61]; first | exact t8 | exact (sub_one (by omega)).trans (by omega) | exact (i32_inc (by omega)).trans (by omega)
    have t9 : (mv_i S61 3 9).toInt = w58.toInt := by rw [eS61]; rfl
    have kS61 : mv_a S61 4 = mv_a σ 4 := by rw [eS61]; first | rfl | exact kp
    have kp := kS61
    have t7 : 1 ≤ (mv_i S61 3 7).toInt ∧ (mv_i S61 3 7).toInt < sz ∧ ((mv_i S61 3 9).toInt < 0 → a + 2 ≤ (mv_i S61 3 7).toInt) := by omega
    clear eS61
    refine mv_pop (pc := 61) B d_Exprs_part_61 rfl ?_
    refine mv_aload_n (pc := 62) B d_Exprs_part_62 rfl 2 rfl ?_
    refine mv_callVi (pc := 63) (n := 0) (ci := 6) (C := R_Exprs) B (mK_ok sk sv) hNs rfl rfl (c_Exprs_release l hi _ hR.1 (by have := hX.1.2.2.1; omega) (by have := hX.1.2.2.1; omega)) rfl (ma_goodc kc_Exprs_release) (B.2.2.2.1 _ k_1469) (B.2.2.2.1 _ k_1470) (B.2.2.2.1 _ k_1471) (B.2.2.2.1 _ k_7) ⟨by decide +kernel, by decide +kernel, by decide +kernel⟩ rfl d_Exprs_part_63 rfl (Nat.le_of_ble_eq_true rfl) ⟨by decide, by decide⟩ ⟨by decide, by decide⟩ ⟨by decide, by decide⟩ (mv_noH hno _) (fun v63 σ63 h63 => ?_)
    subst h63
    refine mv_gen (fun S66 eS66 => ?_)
    have hR : Rw 32 (mv_r S66) := by rw [eS66]; exact hR
    have hF : RF 32 σ S66 := by rw [eS66]; exact hF.rel
    have hX : XM 32 th e0 bs BL f0 g0 ns S66 (ms) (sm wt ms) (sm wr ms + 1) (s0) := by rw [eS66]; exact hX.rel hP
    have t7 : 1 ≤ (mv_i S66 3 7).toInt ∧ (mv_i S66 3 7).toInt < sz ∧ ((mv_i S66 3 9).toInt < 0 → a + 2 ≤ (mv_i S66 3 7).toInt) := by rw [eS66]; exact t7
    have t8 : (mv_i S66 3 8).toInt = (mv_i σ 3 8).toInt := by rw [eS66]; exact t8
    clear eS66
    refine mv_istore_n (pc := 66) B d_Exprs_part_66 rfl (by decide) rfl ?_
    refine mv_aload_n (pc := 67) B d_Exprs_part_67 rfl 3 rfl ?_
    refine mv_getR (pc := 68) (ci := 6) (C := R_Exprs) (T := F_Exprs) (N := 11) B 0 rfl rfl (by decide) i_Exprs (B.2.2.2.1 _ k_193) rfl (hR.1 _ 0 _ rfl) d_Exprs_part_68 ?_
    refine mv_getR (pc := 71) (ci := 2) (C := R_Tokens) (T := F_Tokens) (N := 10) B 2 rfl rfl (by decide) i_Tokens (B.2.2.2.1 _ k_95) rfl (hR.1 _ 2 _ rfl) d_Exprs_part_71 ?_
    refine mv_iload_n (pc := 74) B d_Exprs_part_74 rfl 2 rfl ?_
    refine mv_lald (pc := 75) B rfl (i32_in b1.1 (by omega)) d_Exprs_part_75 ?_
    refine mv_lstore (pc := 76) B d_Exprs_part_76 (by decide) rfl ?_
    refine mv_aload_n (pc := 78) B d_Exprs_part_78 rfl 4 rfl ?_
    refine mv_getR (pc := 79) (ci := 6) (C := R_Exprs) (T := F_Exprs) (N := 11) B 0 rfl rfl (by decide) i_Exprs (B.2.2.2.1 _ k_193) rfl (hR.1 _ 0 _ rfl) d_Exprs_part_79 ?_
    refine mv_getR (pc := 82) (ci := 2) (C := R_Tokens) (T := F_Tokens) (N := 10) B 2 rfl rfl (by decide) i_Tokens (B.2.2.2.1 _ k_95) rfl (hR.1 _ 2 _ rfl) d_Exprs_part_82 ?_
    refine mv_iload_n (pc := 85) B d_Exprs_part_85 rfl 2 rfl ?_
    refine mv_lald (pc := 86) B rfl (i32_in b2.1 (by omega)) d_Exprs_part_86 ?_
    refine mv_lstore (pc := 87) B d_Exprs_part_87 (by decide) rfl ?_
    refine mv_iload_n (pc := 89) B d_Exprs_part_89 rfl 2 rfl ?_
    refine mv_if_le (pc := 90) (tgt := 112) B d_Exprs_part_90 rfl (fun h90 => ?_) (fun h90 => ?_)
    · skip
      refine mv_iconst (pc := 112) (v := 0) B d_Exprs_part_112 (by decide) ?_
      refine mv_lpick [2, 1, 0, 5, 4, 3] rfl ?_
      exact j113 _ _ _ _ _ _ _ hR hF hX t8 t7 b1 b2
    · skip
      refine mv_lload (pc := 93) B d_Exprs_part_93 1 rfl ?_
      refine mv_lconst (pc := 95) (v := 0) B d_Exprs_part_95 (by decide) ?_
      refine mv_lcmp (pc := 96) B d_Exprs_part_96 ?_
      refine mv_if_lt (pc := 97) (tgt := 108) B d_Exprs_part_97 rfl (fun h97 => ?_) (fun h97 => ?_)
      · skip
        refine mv_iconst (pc := 108) (v := 1) B d_Exprs_part_108 (by decide) ?_
        refine mv_goto (pc := 109) (tgt := 113) B d_Exprs_part_109 rfl ?_
        refine mv_lpick [2, 1, 0, 5, 4, 3] rfl ?_
        exact j113 _ _ _ _ _ _ _ hR hF hX t8 t7 b1 b2
      · skip
        refine mv_lload (pc := 100) B d_Exprs_part_100 1 rfl ?_
        refine mv_iload_n (pc := 102) B d_Exprs_part_102 rfl 2 rfl ?_
        refine mv_i2l (pc := 103) B d_Exprs_part_103 ?_
        refine mv_lcmp (pc := 104) B d_Exprs_part_104 ?_
        refine mv_if_lt (pc := 105) (tgt := 112) B d_Exprs_part_105 rfl (fun h105 => ?_) (fun h105 => ?_)
        · skip
          refine mv_iconst (pc := 112) (v := 0) B d_Exprs_part_112 (by decide) ?_
          refine mv_lpick [2, 1, 0, 5, 4, 3] rfl ?_
          exact j113 _ _ _ _ _ _ _ hR hF hX t8 t7 b1 b2
        · skip
          refine mv_iconst (pc := 108) (v := 1) B d_Exprs_part_108 (by decide) ?_
          refine mv_goto (pc := 109) (tgt := 113) B d_Exprs_part_109 rfl ?_
          refine mv_lpick [2, 1, 0, 5, 4, 3] rfl ?_
          exact j113 _ _ _ _ _ _ _ hR hF hX t8 t7 b1 b2
  refine mv_aload_n (pc := 0) B d_Exprs_part_0 rfl 0 rfl ?_
  refine mv_getR (pc := 1) (ci := 6) (C := R_Exprs) (T := F_Exprs) (N := 11) B 0 rfl rfl (by decide) i_Exprs (B.2.2.2.1 _ k_193) rfl (hR.1 _ 0 _ rfl) d_Exprs_part_1 ?_
  refine mv_bipush (pc := 4) (v := 91) B d_Exprs_part_4 (by decide) ?_
  refine mv_callVi (pc := 6) (n := 1) (ci := 2) (C := R_Tokens) B (mK_ok sk sv) hNs rfl rfl (c_Tokens_openN l hi _ _ hR.1 (hB0.rf hF hP ht2).2.1 (by omega) (by omega) (by decide)) rfl (ma_goodc kc_Tokens_open) (B.2.2.2.1 _ k_1415) (B.2.2.2.1 _ k_1350) (B.2.2.2.1 _ k_1351) (B.2.2.2.1 _ k_3) ⟨by decide +kernel, by decide +kernel, by decide +kernel⟩ rfl d_Exprs_part_6 rfl (Nat.le_of_ble_eq_true rfl) ⟨by decide, by decide⟩ ⟨by decide, by decide⟩ ⟨by decide, by decide⟩ (mv_noH hno _) (fun v6 σ6 h6 => ?_)
  obtain ⟨a6, w6, e6, r6⟩ := h6
  have q6 := r6.1
  have z6 := fun q => (r6.2.1 q).1
  have y6 := And.intro r6.2.2.2.1 r6.2.2.2.2.1
  subst e6
  refine mv_gen (fun S9 eS9 => ?_)
  have hR : Rw 32 (mv_r S9) := by rw [eS9]; exact hR
  have hF : RF 32 σ S9 := by rw [eS9]; exact hF.tk3 _ _ _
  have hX : XM 32 th e0 bs BL f0 g0 ns S9 (ms) (sm wt ms + 1) (sm wr ms + 1) (s0) := by rw [eS9]; exact hX.tk3 hP _ _ _
  have t7 : (mv_i S9 3 7).toInt = a6.toInt := by rw [eS9]; rfl
  have t8 : (mv_i S9 3 8).toInt = (mv_i σ 3 8).toInt + 1 := by rw [eS9]; first | exact t8 | exact (sub_one (by omega)).trans (by omega) | exact (i32_inc (by omega)).trans (by omega)
  have t9 : (mv_i S9 3 9).toInt = w6.toInt := by rw [eS9]; rfl
  have kS9 : mv_a S9 4 = mv_a σ 4 := by rw [eS9]; first | rfl | exact kp
  have kp := kS9
  clear eS9
  refine mv_pop (pc := 9) B d_Exprs_part_9 rfl ?_
  refine mv_aload_n (pc := 10) B d_Exprs_part_10 rfl 0 rfl ?_
  refine mv_getR (pc := 11) (ci := 6) (C := R_Exprs) (T := F_Exprs) (N := 11) B 0 rfl rfl (by decide) i_Exprs (B.2.2.2.1 _ k_193) rfl (hR.1 _ 0 _ rfl) d_Exprs_part_11 ?_
  refine mv_iconst (pc := 14) (v := 4) B d_Exprs_part_14 (by decide) ?_
  refine mv_callVi (pc := 15) (n := 1) (ci := 2) (C := R_Tokens) B (mK_ok sk sv) hNs rfl rfl (c_Tokens_takeN l hi _ _ hR.1 (hB0.rf hF hP ht2).2.1 (by omega) (by omega) (by decide)) rfl (ma_goodc kc_Tokens_take) (B.2.2.2.1 _ k_1424) (B.2.2.2.1 _ k_1267) (B.2.2.2.1 _ k_1268) (B.2.2.2.1 _ k_3) ⟨by decide +kernel, by decide +kernel, by decide +kernel⟩ rfl d_Exprs_part_15 rfl (Nat.le_of_ble_eq_true rfl) ⟨by decide, by decide⟩ ⟨by decide, by decide⟩ ⟨by decide, by decide⟩ (mv_noH hno _) (fun v15 σ15 h15 => ?_)
  obtain ⟨a15, w15, e15, r15⟩ := h15
  have q15 := r15.1
  have z15 := fun q => (r15.2.1 q).1
  have y15 := And.intro r15.2.2.2.1 r15.2.2.2.2.1
  subst e15
  refine mv_gen (fun S18 eS18 => ?_)
  have hR : Rw 32 (mv_r S18) := by rw [eS18]; exact hR
  have hF : RF 32 σ S18 := by rw [eS18]; exact hF.tk3 _ _ _
  have hX : XM 32 th e0 bs BL f0 g0 ns S18 (ms) (sm wt ms + 1) (sm wr ms + 1) (s0) := by rw [eS18]; exact hX.tk3 hP _ _ _
  have t7 : (mv_i S18 3 7).toInt = a15.toInt := by rw [eS18]; rfl
  have t8 : (mv_i S18 3 8).toInt = (mv_i σ 3 8).toInt + 1 := by rw [eS18]; first | exact t8 | exact (sub_one (by omega)).trans (by omega) | exact (i32_inc (by omega)).trans (by omega)
  have t9 : (mv_i S18 3 9).toInt = w15.toInt := by rw [eS18]; rfl
  have kS18 : mv_a S18 4 = mv_a σ 4 := by rw [eS18]; first | rfl | exact kp
  have kp := kS18
  clear eS18
  refine mv_istore_n (pc := 18) B d_Exprs_part_18 rfl (by decide) rfl ?_
  refine mv_iload_n (pc := 19) B d_Exprs_part_19 rfl 0 rfl ?_
  refine mv_istore_n (pc := 20) B d_Exprs_part_20 rfl (by decide) rfl ?_
  refine mv_aload_n (pc := 21) B d_Exprs_part_21 rfl 2 rfl ?_
  refine mv_getR (pc := 22) (ci := 6) (C := R_Exprs) (T := F_Exprs) (N := 11) B 0 rfl rfl (by decide) i_Exprs (B.2.2.2.1 _ k_193) rfl (hR.1 _ 0 _ rfl) d_Exprs_part_22 ?_
  refine mv_callVi (pc := 25) (n := 0) (ci := 2) (C := R_Tokens) B (mK_ok sk sv) hNs rfl rfl (c_Tokens_kind l hi _ hR.1 (i32_in (by omega) (by omega))) rfl (ma_goodc kc_Tokens_kind) (B.2.2.2.1 _ k_1414) (B.2.2.2.1 _ k_1271) (B.2.2.2.1 _ k_1272) (B.2.2.2.1 _ k_3) ⟨by decide +kernel, by decide +kernel, by decide +kernel⟩ rfl d_Exprs_part_25 rfl (Nat.le_of_ble_eq_true rfl) ⟨by decide, by decide⟩ ⟨by decide, by decide⟩ ⟨by decide, by decide⟩ (mv_noH hno _) (fun v25 σ25 h25 => ?_)
  obtain ⟨e25, -⟩ := h25
  have e25 := e25.symm
  subst e25
  refine mv_bipush (pc := 28) (v := 58) B d_Exprs_part_28 (by decide) ?_
  refine mv_icmp_ne (pc := 30) (tgt := 52) B d_Exprs_part_30 rfl (fun h30 => ?_) (fun h30 => ?_)
  · skip
    have b2 := y15
    refine mv_lpick [0, 1, 2] rfl ?_
    exact j52 _ _ _ hR hF hX t8 (by omega) y15 b2 kp
  · skip
    refine mv_aload_n (pc := 33) B d_Exprs_part_33 rfl 2 rfl ?_
    refine mv_getR (pc := 34) (ci := 6) (C := R_Exprs) (T := F_Exprs) (N := 11) B 0 rfl rfl (by decide) i_Exprs (B.2.2.2.1 _ k_193) rfl (hR.1 _ 0 _ rfl) d_Exprs_part_34 ?_
    refine mv_bipush (pc := 37) (v := 58) B d_Exprs_part_37 (by decide) ?_
    refine mv_callVi (pc := 39) (n := 1) (ci := 2) (C := R_Tokens) B (mK_ok sk sv) hNs rfl rfl (c_Tokens_takeN l hi _ _ hR.1 (hB0.rf hF hP ht2).2.1 (by omega) (by omega) (by decide)) rfl (ma_goodc kc_Tokens_take) (B.2.2.2.1 _ k_1424) (B.2.2.2.1 _ k_1267) (B.2.2.2.1 _ k_1268) (B.2.2.2.1 _ k_3) ⟨by decide +kernel, by decide +kernel, by decide +kernel⟩ rfl d_Exprs_part_39 rfl (Nat.le_of_ble_eq_true rfl) ⟨by decide, by decide⟩ ⟨by decide, by decide⟩ ⟨by decide, by decide⟩ (mv_noH hno _) (fun v39 σ39 h39 => ?_)
    obtain ⟨a39, w39, e39, r39⟩ := h39
    have q39 := r39.1
    have z39 := fun q => (r39.2.1 q).1
    have y39 := And.intro r39.2.2.2.1 r39.2.2.2.2.1
    subst e39
    refine mv_gen (fun S42 eS42 => ?_)
    have hR : Rw 32 (mv_r S42) := by rw [eS42]; exact hR
    have hF : RF 32 σ S42 := by rw [eS42]; exact hF.tk3 _ _ _
    have hX : XM 32 th e0 bs BL f0 g0 ns S42 (ms) (sm wt ms + 1) (sm wr ms + 1) (s0) := by rw [eS42]; exact hX.tk3 hP _ _ _
    have t7 : (mv_i S42 3 7).toInt = a39.toInt := by rw [eS42]; rfl
    have t8 : (mv_i S42 3 8).toInt = (mv_i σ 3 8).toInt + 1 := by rw [eS42]; first | exact t8 | exact (sub_one (by omega)).trans (by omega) | exact (i32_inc (by omega)).trans (by omega)
    have t9 : (mv_i S42 3 9).toInt = w39.toInt := by rw [eS42]; rfl
    have kS42 : mv_a S42 4 = mv_a σ 4 := by rw [eS42]; first | rfl | exact kp
    have kp := kS42
    clear eS42
    refine mv_pop (pc := 42) B d_Exprs_part_42 rfl ?_
    refine mv_aload_n (pc := 43) B d_Exprs_part_43 rfl 2 rfl ?_
    refine mv_getR (pc := 44) (ci := 6) (C := R_Exprs) (T := F_Exprs) (N := 11) B 0 rfl rfl (by decide) i_Exprs (B.2.2.2.1 _ k_193) rfl (hR.1 _ 0 _ rfl) d_Exprs_part_44 ?_
    refine mv_iconst (pc := 47) (v := 4) B d_Exprs_part_47 (by decide) ?_
    refine mv_callVi (pc := 48) (n := 1) (ci := 2) (C := R_Tokens) B (mK_ok sk sv) hNs rfl rfl (c_Tokens_takeN l hi _ _ hR.1 (hB0.rf hF hP ht2).2.1 (by omega) (by omega) (by decide)) rfl (ma_goodc kc_Tokens_take) (B.2.2.2.1 _ k_1424) (B.2.2.2.1 _ k_1267) (B.2.2.2.1 _ k_1268) (B.2.2.2.1 _ k_3) ⟨by decide +kernel, by decide +kernel, by decide +kernel⟩ rfl d_Exprs_part_48 rfl (Nat.le_of_ble_eq_true rfl) ⟨by decide, by decide⟩ ⟨by decide, by decide⟩ ⟨by decide, by decide⟩ (mv_noH hno _) (fun v48 σ48 h48 => ?_)
    obtain ⟨a48, w48, e48, r48⟩ := h48
    have q48 := r48.1
    have z48 := fun q => (r48.2.1 q).1
    have y48 := And.intro r48.2.2.2.1 r48.2.2.2.2.1
    subst e48
    refine mv_gen (fun S51 eS51 => ?_)
    have hR : Rw 32 (mv_r S51) := by rw [eS51]; exact hR
    have hF : RF 32 σ S51 := by rw [eS51]; exact hF.tk3 _ _ _
    have hX : XM 32 th e0 bs BL f0 g0 ns S51 (ms) (sm wt ms + 1) (sm wr ms + 1) (s0) := by rw [eS51]; exact hX.tk3 hP _ _ _
    have t7 : (mv_i S51 3 7).toInt = a48.toInt := by rw [eS51]; rfl
    have t8 : (mv_i S51 3 8).toInt = (mv_i σ 3 8).toInt + 1 := by rw [eS51]; first | exact t8 | exact (sub_one (by omega)).trans (by omega) | exact (i32_inc (by omega)).trans (by omega)
    have t9 : (mv_i S51 3 9).toInt = w48.toInt := by rw [eS51]; rfl
    have kS51 : mv_a S51 4 = mv_a σ 4 := by rw [eS51]; first | rfl | exact kp
    have kp := kS51
    clear eS51
    have b2 := y48
    refine mv_istore_n (pc := 51) B d_Exprs_part_51 rfl (by decide) rfl ?_
    refine mv_lpick [0, 1, 2] rfl ?_
    exact j52 _ _ _ hR hF hX t8 (by omega) y15 b2 kp
set_option maxHeartbeats 4000000 in
set_option maxRecDepth 100000 in
theorem c_Exprs_part_b (l : Launch) {dA : FieldType → ClassId} {D : va_G} {al : Nat → Nat} {ext : mv_Sh} {sk sv : Nat → Nat} (hi : mv_inj (mg dA D al ext)) (σ : mv_H) {t len n z sz th sl e0 bs ns : Nat} {BL : (Nat → Nat) → Prop} {f0 : Nat → Int32} {g0 : Nat → Int64} {ms : List Mk} {s0 bd a : Nat} (hB0 : SB 48 σ t len n z sz th sl) (ht2 : t = 1 ∨ t = 144) (hX : XM 48 th e0 bs BL f0 g0 ns σ (ms) (sm wt ms + 1) (sm wr ms + 1) (s0)) (hI : TI σ sz bd ms s0 a) (hlen : len ≤ 32768) (hbs : bs ≤ 1) (hk3 : mv_a σ 4 (mv_i σ 3 7).toNatClampNeg = 91) : mv_C l y_Exprs_part (Cond.code y_Exprs_part b_Exprs_part 12 (Option.none : Option Jvm.ClassFile.FieldType) :: ma) ({ frames := 3, cells := 0, slots := 0, locals := 63 }) (mg dA D al ext) (mK sk sv) [.ref (al 22)] σ (mv_Rv (fun σ1 => RF 48 σ σ1 ∧ Mt (mv_a σ1 24) ∧ (0 ≤ (mv_i σ1 3 9).toInt ∨ ∃ ms2 s2 a2, a < a2 ∧ XM 48 th e0 bs BL f0 g0 ns σ1 (ms2) (sm wt ms2 + 1) (sm wr ms2 + 1) (s2) ∧ TI σ1 sz bd ms2 s2 a2))) := by
  refine mv_C.ofV (cc := b_Exprs_part) (nL := 12) (ret := (Option.none : Option Jvm.ClassFile.FieldType)) (by decide +kernel) rfl hi (Nat.le_of_ble_eq_true rfl) ?_
  intro p e s m below meth c B hNs hr hnm hno
  have hP : PQ 48 := by unfold PQ; omega
  have hR := hB0.1
  have hF : RF 48 σ σ := RF0
  have hT : mv_i σ 3 = mv_i σ 3 := rfl
  have hsz := hB0.2.1.2.2.2.2.2
  have hsz2 := hB0.2.1.2.2.2.1
  have hI5 := hI.2.2.2.2.1
  have ha9 := hI.2.2.2.2.2.1
  have pl := hI.len hX
  have hm8 := hX.1.1
  have t7 := hI.1
  have hw9 := hI.2.1
  have t9 : (mv_i σ 3 9).toInt = (mv_i σ 3 9).toInt := rfl
  have hd8 := hI.2.2.1
  have hd9 := hI.2.2.2.1
  have hWm := hI.2.2.2.2.2.2
  have kp : mv_a σ 4 = mv_a σ 4 := rfl
  have t8 : (mv_i σ 3 8).toInt = (mv_i σ 3 8).toInt := rfl
  have j184 : ∀ (υ : mv_H) (wi : Int32) (lo : Int64) (hR : Rw 48 (mv_r υ)) (hF : RF 48 σ υ) (hX : XM 48 th e0 bs BL f0 g0 ns υ (ms) (sm wt ms) (sm wr ms + 1) (s0)) (t8 : (mv_i υ 3 8).toInt = (mv_i σ 3 8).toInt) (t7 : 1 ≤ (mv_i υ 3 7).toInt ∧ (mv_i υ 3 7).toInt < sz ∧ ((mv_i υ 3 9).toInt < 0 → a + 2 ≤ (mv_i υ 3 7).toInt)), mv_V p l e ({ frames := 3, cells := 0, slots := 0, locals := 63 }) s m ([.ref (al 22)] : List Value).toArray below meth c (mg dA D al ext) 12 0 0 (mv_Q (mg dA D al ext) below s 0 0 (mv_Rv (fun σ1 => RF 48 σ σ1 ∧ Mt (mv_a σ1 24) ∧ (0 ≤ (mv_i σ1 3 9).toInt ∨ ∃ ms2 s2 a2, a < a2 ∧ XM 48 th e0 bs BL f0 g0 ns σ1 (ms2) (sm wt ms2 + 1) (sm wr ms2 + 1) (s2) ∧ TI σ1 sz bd ms2 s2 a2)))) υ 184 [(6, .long lo), (0, .ref (al 22))] [.int wi] := by
    intro υ wi lo hR hF hX t8 t7
    refine mv_istore (pc := 184) B d_Exprs_part_184 (by decide) rfl ?_
    refine mv_aload_n (pc := 186) B d_Exprs_part_186 rfl 2 rfl ?_
    refine mv_getR (pc := 187) (ci := 6) (C := R_Exprs) (T := F_Exprs) (N := 11) B 3 rfl rfl (by decide) i_Exprs (B.2.2.2.1 _ k_197) rfl hR.2.2.2 d_Exprs_part_187 ?_
    refine mv_sipush (pc := 190) (v := 308) B d_Exprs_part_190 (by decide) ?_
    refine mv_lload (pc := 193) B d_Exprs_part_193 1 rfl ?_
    refine mv_ldc2 (pc := 195) (v := 255) B (B.2.2.2.1 _ k_1477) d_Exprs_part_195 ?_
    refine mv_land (pc := 198) B d_Exprs_part_198 ?_
    refine mv_iload (pc := 199) B d_Exprs_part_199 0 rfl ?_
    refine mv_i2l (pc := 201) B d_Exprs_part_201 ?_
    refine mv_bipush (pc := 202) (v := 8) B d_Exprs_part_202 (by decide) ?_
    refine mv_lshl (pc := 204) B d_Exprs_part_204 ?_
    refine mv_lor (pc := 205) B d_Exprs_part_205 ?_
    refine mv_callVi (pc := 206) (n := 2) (ci := 7) (C := R_Program) B (mK_ok sk sv) hNs rfl rfl (c_Program_emit_b l hi _ _ _ hR.2.1 (by have := hX.2.1.1; omega) (by have := hX.2.1.1; omega)) rfl (ma_goodc kc_Program_emit) (B.2.2.2.1 _ k_1425) (B.2.2.2.1 _ k_1385) (B.2.2.2.1 _ k_1386) (B.2.2.2.1 _ k_8) ⟨by decide +kernel, by decide +kernel, by decide +kernel⟩ rfl d_Exprs_part_206 rfl (Nat.le_of_ble_eq_true rfl) ⟨by decide, by decide⟩ ⟨by decide, by decide⟩ ⟨by decide, by decide⟩ (mv_noH hno _) (fun v206 σ206 h206 => ?_)
    obtain ⟨e206, -⟩ := h206
    subst e206
    refine mv_gen (fun S209 eS209 => ?_)
    have hR : Rw 48 (mv_r S209) := by rw [eS209]; exact hR
    have hF : RF 48 σ S209 := by rw [eS209]; exact hF.emit _ _
    have hX : XM 48 th e0 bs BL f0 g0 ns S209 (ms) (sm wt ms) (sm wr ms + 1) (s0 + 1) := by rw [eS209]; exact hX.emit0 hP (by omega) (sm wr ms + 1) (by decide) (by decide) (Op1_one (Or.inl rfl) th _ (bs + sm wr ms)) (by omega)
    have t7 : 1 ≤ (mv_i S209 3 7).toInt ∧ (mv_i S209 3 7).toInt < sz ∧ ((mv_i S209 3 9).toInt < 0 → a + 2 ≤ (mv_i S209 3 7).toInt) := by rw [eS209]; exact t7
    have t8 : (mv_i S209 3 8).toInt = (mv_i σ 3 8).toInt := by rw [eS209]; exact t8
    clear eS209
    refine mv_pop (pc := 209) B d_Exprs_part_209 rfl ?_
    refine mv_aload_n (pc := 210) B d_Exprs_part_210 rfl 2 rfl ?_
    refine mv_iload (pc := 211) B d_Exprs_part_211 0 rfl ?_
    refine mv_callVv (pc := 213) (n := 1) (ci := 6) (C := R_Exprs) B (mK_ok sk sv) hNs rfl rfl (c_Exprs_hold l hi _ _ hR.1 (by have := hX.1.2.2.1; omega) (by have := hX.1.2.2.1; omega)) rfl (ma_goodc kc_Exprs_hold) (B.2.2.2.1 _ k_1432) (B.2.2.2.1 _ k_1434) (B.2.2.2.1 _ ks_51) (B.2.2.2.1 _ k_7) ⟨by decide +kernel, by decide +kernel, by decide +kernel⟩ rfl d_Exprs_part_213 rfl (Nat.le_of_ble_eq_true rfl) ⟨by decide, by decide⟩ ⟨by decide, by decide⟩ ⟨by decide, by decide⟩ (mv_noH hno _) (fun σ213 h213 => ?_)
    subst h213
    refine mv_gen (fun S216 eS216 => ?_)
    have hR : Rw 48 (mv_r S216) := by rw [eS216]; exact hR
    have hF : RF 48 σ S216 := by rw [eS216]; exact hF.hold _
    have hX : XM 48 th e0 bs BL f0 g0 ns S216 (ms) (sm wt ms + 1) (sm wr ms + 1) (s0 + 1) := by rw [eS216]; exact hX.hold hP (by omega) _
    have t7 : 1 ≤ (mv_i S216 3 7).toInt ∧ (mv_i S216 3 7).toInt < sz ∧ ((mv_i S216 3 9).toInt < 0 → a + 2 ≤ (mv_i S216 3 7).toInt) := by rw [eS216]; exact t7
    have t8 : (mv_i S216 3 8).toInt = (mv_i σ 3 8).toInt := by rw [eS216]; exact t8
    have hend : 0 ≤ (mv_i S216 3 9).toInt ∨ ∃ ms2 s2 a2, a < a2 ∧ XM 48 th e0 bs BL f0 g0 ns S216 (ms2) (sm wt ms2 + 1) (sm wr ms2 + 1) (s2) ∧ TI S216 sz bd ms2 s2 a2 := by
      by_cases hw : (mv_i S216 3 9).toInt < 0
      · exact Or.inr ⟨ms, s0 + 1, (mv_i S216 3 7).toInt.toNat, by omega, hX, by omega, hw, by omega, by omega, by omega, by omega, hWm.up (by omega)⟩
      · exact Or.inl (by omega)
    clear eS216
    exact mv_vret (pc := 216) B hr d_Exprs_part_216 (Nat.le_refl _) (Nat.le_refl _) ⟨rfl, hF, hX.1.2.2.2.1, hend⟩
  have j165 : ∀ (υ : mv_H) (fl : Int32) (hg9 : Int64) (lo : Int64) (hR : Rw 48 (mv_r υ)) (hF : RF 48 σ υ) (hX : XM 48 th e0 bs BL f0 g0 ns υ (ms) (sm wt ms) (sm wr ms + 1) (s0)) (t8 : (mv_i υ 3 8).toInt = (mv_i σ 3 8).toInt) (t7 : 1 ≤ (mv_i υ 3 7).toInt ∧ (mv_i υ 3 7).toInt < sz ∧ ((mv_i υ 3 9).toInt < 0 → a + 2 ≤ (mv_i υ 3 7).toInt)), mv_V p l e ({ frames := 3, cells := 0, slots := 0, locals := 63 }) s m ([.ref (al 22)] : List Value).toArray below meth c (mg dA D al ext) 12 0 0 (mv_Q (mg dA D al ext) below s 0 0 (mv_Rv (fun σ1 => RF 48 σ σ1 ∧ Mt (mv_a σ1 24) ∧ (0 ≤ (mv_i σ1 3 9).toInt ∨ ∃ ms2 s2 a2, a < a2 ∧ XM 48 th e0 bs BL f0 g0 ns σ1 (ms2) (sm wt ms2 + 1) (sm wr ms2 + 1) (s2) ∧ TI σ1 sz bd ms2 s2 a2)))) υ 165 [(4, .long hg9), (6, .long lo), (0, .ref (al 22))] [.int fl] := by
    intro υ fl hg9 lo hR hF hX t8 t7
    refine mv_istore (pc := 165) B d_Exprs_part_165 (by decide) rfl ?_
    refine mv_iload (pc := 167) B d_Exprs_part_167 0 rfl ?_
    refine mv_if_eq (pc := 169) (tgt := 176) B d_Exprs_part_169 rfl (fun h169 => ?_) (fun h169 => ?_)
    · skip
      refine mv_lload (pc := 176) B d_Exprs_part_176 1 rfl ?_
      refine mv_lload (pc := 178) B d_Exprs_part_178 2 rfl ?_
      refine mv_lsub (pc := 180) B d_Exprs_part_180 ?_
      refine mv_l2i (pc := 181) B d_Exprs_part_181 ?_
      refine mv_iconst (pc := 182) (v := 1) B d_Exprs_part_182 (by decide) ?_
      refine mv_iadd (pc := 183) B d_Exprs_part_183 ?_
      refine mv_lpick [2, 3] rfl ?_
      exact j184 _ _ _ hR hF hX t8 t7
    · skip
      refine mv_iconst (pc := 172) (v := 0) B d_Exprs_part_172 (by decide) ?_
      refine mv_goto (pc := 173) (tgt := 184) B d_Exprs_part_173 rfl ?_
      refine mv_lpick [2, 3] rfl ?_
      exact j184 _ _ _ hR hF hX t8 t7
  have j146 : ∀ (υ : mv_H) (wd9 : Int32) (hg9 : Int64) (lo : Int64) (f8 : Int32) (f9 : Int32) (hR : Rw 48 (mv_r υ)) (hF : RF 48 σ υ) (hX : XM 48 th e0 bs BL f0 g0 ns υ (ms) (sm wt ms) (sm wr ms + 1) (s0)) (t8 : (mv_i υ 3 8).toInt = (mv_i σ 3 8).toInt) (t7 : 1 ≤ (mv_i υ 3 7).toInt ∧ (mv_i υ 3 7).toInt < sz ∧ ((mv_i υ 3 9).toInt < 0 → a + 2 ≤ (mv_i υ 3 7).toInt)), mv_V p l e ({ frames := 3, cells := 0, slots := 0, locals := 63 }) s m ([.ref (al 22)] : List Value).toArray below meth c (mg dA D al ext) 12 0 0 (mv_Q (mg dA D al ext) below s 0 0 (mv_Rv (fun σ1 => RF 48 σ σ1 ∧ Mt (mv_a σ1 24) ∧ (0 ≤ (mv_i σ1 3 9).toInt ∨ ∃ ms2 s2 a2, a < a2 ∧ XM 48 th e0 bs BL f0 g0 ns σ1 (ms2) (sm wt ms2 + 1) (sm wr ms2 + 1) (s2) ∧ TI σ1 sz bd ms2 s2 a2)))) υ 146 [(3, .int wd9), (4, .long hg9), (6, .long lo), (8, .int f8), (9, .int f9), (0, .ref (al 22))] [] := by
    intro υ wd9 hg9 lo f8 f9 hR hF hX t8 t7
    refine mv_iload_n (pc := 146) B d_Exprs_part_146 rfl 0 rfl ?_
    refine mv_if_eq (pc := 147) (tgt := 160) B d_Exprs_part_147 rfl (fun h147 => ?_) (fun h147 => ?_)
    · skip
      refine mv_iconst (pc := 160) (v := 1) B d_Exprs_part_160 (by decide) ?_
      refine mv_goto (pc := 161) (tgt := 165) B d_Exprs_part_161 rfl ?_
      refine mv_lpick [1, 2, 5] rfl ?_
      exact j165 _ _ _ _ hR hF hX t8 t7
    · skip
      refine mv_iload (pc := 150) B d_Exprs_part_150 3 rfl ?_
      refine mv_if_ne (pc := 152) (tgt := 160) B d_Exprs_part_152 rfl (fun h152 => ?_) (fun h152 => ?_)
      · skip
        refine mv_iconst (pc := 160) (v := 1) B d_Exprs_part_160 (by decide) ?_
        refine mv_goto (pc := 161) (tgt := 165) B d_Exprs_part_161 rfl ?_
        refine mv_lpick [1, 2, 5] rfl ?_
        exact j165 _ _ _ _ hR hF hX t8 t7
      · skip
        refine mv_iload (pc := 155) B d_Exprs_part_155 4 rfl ?_
        refine mv_if_eq (pc := 157) (tgt := 164) B d_Exprs_part_157 rfl (fun h157 => ?_) (fun h157 => ?_)
        · skip
          refine mv_iconst (pc := 164) (v := 0) B d_Exprs_part_164 (by decide) ?_
          refine mv_lpick [1, 2, 5] rfl ?_
          exact j165 _ _ _ _ hR hF hX t8 t7
        · skip
          refine mv_iconst (pc := 160) (v := 1) B d_Exprs_part_160 (by decide) ?_
          refine mv_goto (pc := 161) (tgt := 165) B d_Exprs_part_161 rfl ?_
          refine mv_lpick [1, 2, 5] rfl ?_
          exact j165 _ _ _ _ hR hF hX t8 t7
  have j135 : ∀ (υ : mv_H) (wd9 : Int32) (hg9 : Int64) (lo : Int64) (f8 : Int32) (f9 : Int32) (tk2 : Int32) (hR : Rw 48 (mv_r υ)) (hF : RF 48 σ υ) (hX : XM 48 th e0 bs BL f0 g0 ns υ (ms) (sm wt ms) (sm wr ms + 1) (s0)) (t8 : (mv_i υ 3 8).toInt = (mv_i σ 3 8).toInt) (t7 : 1 ≤ (mv_i υ 3 7).toInt ∧ (mv_i υ 3 7).toInt < sz ∧ ((mv_i υ 3 9).toInt < 0 → a + 2 ≤ (mv_i υ 3 7).toInt)) (b2 : 0 ≤ tk2.toInt ∧ tk2.toInt < sz), mv_V p l e ({ frames := 3, cells := 0, slots := 0, locals := 63 }) s m ([.ref (al 22)] : List Value).toArray below meth c (mg dA D al ext) 12 0 0 (mv_Q (mg dA D al ext) below s 0 0 (mv_Rv (fun σ1 => RF 48 σ σ1 ∧ Mt (mv_a σ1 24) ∧ (0 ≤ (mv_i σ1 3 9).toInt ∨ ∃ ms2 s2 a2, a < a2 ∧ XM 48 th e0 bs BL f0 g0 ns σ1 (ms2) (sm wt ms2 + 1) (sm wr ms2 + 1) (s2) ∧ TI σ1 sz bd ms2 s2 a2)))) υ 135 [(3, .int wd9), (4, .long hg9), (6, .long lo), (8, .int f8), (9, .int f9), (0, .ref (al 22)), (2, .int tk2)] [] := by
    intro υ wd9 hg9 lo f8 f9 tk2 hR hF hX t8 t7 b2
    refine mv_iload (pc := 135) B d_Exprs_part_135 4 rfl ?_
    refine mv_if_eq (pc := 137) (tgt := 146) B d_Exprs_part_137 rfl (fun h137 => ?_) (fun h137 => ?_)
    · skip
      refine mv_lpick [0, 1, 2, 3, 4, 5] rfl ?_
      exact j146 _ _ _ _ _ _ hR hF hX t8 t7
    · skip
      refine mv_aload_n (pc := 140) B d_Exprs_part_140 rfl 5 rfl ?_
      refine mv_iload_n (pc := 141) B d_Exprs_part_141 rfl 6 rfl ?_
      refine mv_iconst (pc := 142) (v := 3) B d_Exprs_part_142 (by decide) ?_
      refine mv_callVv (pc := 143) (n := 2) (ci := 6) (C := R_Exprs) B (mK_ok sk sv) hNs rfl rfl (c_Exprs_tell l hi _ _ _ hR.1 b2.1 (by omega) (by decide)) rfl (ma_goodc kc_Exprs_tell) (B.2.2.2.1 _ k_1427) (B.2.2.2.1 _ k_1429) (B.2.2.2.1 _ ks_50) (B.2.2.2.1 _ k_7) ⟨by decide +kernel, by decide +kernel, by decide +kernel⟩ rfl d_Exprs_part_143 rfl (Nat.le_of_ble_eq_true rfl) ⟨by decide, by decide⟩ ⟨by decide, by decide⟩ ⟨by decide, by decide⟩ (mv_noH hno _) (fun σ143 h143 => ?_)
      obtain ⟨x9, y9, e143, z143⟩ := h143
      subst e143
      refine mv_gen (fun S146 eS146 => ?_)
      have hR : Rw 48 (mv_r S146) := by rw [eS146]; exact hR
      have hF : RF 48 σ S146 := by rw [eS146]; exact hF.tell _ _
      have hX : XM 48 th e0 bs BL f0 g0 ns S146 (ms) (sm wt ms) (sm wr ms + 1) (s0) := by rw [eS146]; exact hX.tell hP z143 _ _
      have t7 : 1 ≤ (mv_i S146 3 7).toInt ∧ (mv_i S146 3 7).toInt < sz ∧ ((mv_i S146 3 9).toInt < 0 → a + 2 ≤ (mv_i S146 3 7).toInt) := by rw [eS146]; exact t7
      have t8 : (mv_i S146 3 8).toInt = (mv_i σ 3 8).toInt := by rw [eS146]; exact t8
      clear eS146
      refine mv_lpick [0, 1, 2, 3, 4, 5] rfl ?_
      exact j146 _ _ _ _ _ _ hR hF hX t8 t7
  have j113 : ∀ (υ : mv_H) (fl : Int32) (wd9 : Int32) (hg9 : Int64) (lo : Int64) (tk1 : Int32) (tk2 : Int32) (hR : Rw 48 (mv_r υ)) (hF : RF 48 σ υ) (hX : XM 48 th e0 bs BL f0 g0 ns υ (ms) (sm wt ms) (sm wr ms + 1) (s0)) (t8 : (mv_i υ 3 8).toInt = (mv_i σ 3 8).toInt) (t7 : 1 ≤ (mv_i υ 3 7).toInt ∧ (mv_i υ 3 7).toInt < sz ∧ ((mv_i υ 3 9).toInt < 0 → a + 2 ≤ (mv_i υ 3 7).toInt)) (b1 : 0 ≤ tk1.toInt ∧ tk1.toInt < sz) (b2 : 0 ≤ tk2.toInt ∧ tk2.toInt < sz), mv_V p l e ({ frames := 3, cells := 0, slots := 0, locals := 63 }) s m ([.ref (al 22)] : List Value).toArray below meth c (mg dA D al ext) 12 0 0 (mv_Q (mg dA D al ext) below s 0 0 (mv_Rv (fun σ1 => RF 48 σ σ1 ∧ Mt (mv_a σ1 24) ∧ (0 ≤ (mv_i σ1 3 9).toInt ∨ ∃ ms2 s2 a2, a < a2 ∧ XM 48 th e0 bs BL f0 g0 ns σ1 (ms2) (sm wt ms2 + 1) (sm wr ms2 + 1) (s2) ∧ TI σ1 sz bd ms2 s2 a2)))) υ 113 [(3, .int wd9), (4, .long hg9), (6, .long lo), (0, .ref (al 22)), (1, .int tk1), (2, .int tk2)] [.int fl] := by
    intro υ fl wd9 hg9 lo tk1 tk2 hR hF hX t8 t7 b1 b2
    refine mv_istore (pc := 113) B d_Exprs_part_113 (by decide) rfl ?_
    refine mv_lload (pc := 115) B d_Exprs_part_115 2 rfl ?_
    refine mv_lload (pc := 117) B d_Exprs_part_117 3 rfl ?_
    refine mv_callSi (pc := 119) (n := 2) B (mK_ok sk sv) hNs (c_Bits_below l hi _ _ _) rfl (ma_goodc kc_Bits_below) (B.2.2.2.1 _ k_1473) (B.2.2.2.1 _ k_1474) (B.2.2.2.1 _ k_33) ⟨by decide +kernel, by decide +kernel, by decide +kernel⟩ rfl d_Exprs_part_119 rfl (Nat.le_of_ble_eq_true rfl) ⟨by decide, by decide⟩ ⟨by decide, by decide⟩ ⟨by decide, by decide⟩ (mv_noH hno _) (fun v119 σ119 h119 => ?_)
    have h119 := (show _ = _ from by first | exact h119 | exact h119.1).symm
    subst h119
    refine mv_istore (pc := 122) B d_Exprs_part_122 (by decide) rfl ?_
    refine mv_iload (pc := 124) B d_Exprs_part_124 1 rfl ?_
    refine mv_if_eq (pc := 126) (tgt := 135) B d_Exprs_part_126 rfl (fun h126 => ?_) (fun h126 => ?_)
    · skip
      refine mv_lpick [2, 3, 4, 1, 0, 5, 7] rfl ?_
      exact j135 _ _ _ _ _ _ _ hR hF hX t8 t7 b2
    · skip
      refine mv_aload_n (pc := 129) B d_Exprs_part_129 rfl 5 rfl ?_
      refine mv_iload_n (pc := 130) B d_Exprs_part_130 rfl 6 rfl ?_
      refine mv_iconst (pc := 131) (v := 3) B d_Exprs_part_131 (by decide) ?_
      refine mv_callVv (pc := 132) (n := 2) (ci := 6) (C := R_Exprs) B (mK_ok sk sv) hNs rfl rfl (c_Exprs_tell l hi _ _ _ hR.1 b1.1 (by omega) (by decide)) rfl (ma_goodc kc_Exprs_tell) (B.2.2.2.1 _ k_1427) (B.2.2.2.1 _ k_1429) (B.2.2.2.1 _ ks_50) (B.2.2.2.1 _ k_7) ⟨by decide +kernel, by decide +kernel, by decide +kernel⟩ rfl d_Exprs_part_132 rfl (Nat.le_of_ble_eq_true rfl) ⟨by decide, by decide⟩ ⟨by decide, by decide⟩ ⟨by decide, by decide⟩ (mv_noH hno _) (fun σ132 h132 => ?_)
      obtain ⟨x9, y9, e132, z132⟩ := h132
      subst e132
      refine mv_gen (fun S135 eS135 => ?_)
      have hR : Rw 48 (mv_r S135) := by rw [eS135]; exact hR
      have hF : RF 48 σ S135 := by rw [eS135]; exact hF.tell _ _
      have hX : XM 48 th e0 bs BL f0 g0 ns S135 (ms) (sm wt ms) (sm wr ms + 1) (s0) := by rw [eS135]; exact hX.tell hP z132 _ _
      have t7 : 1 ≤ (mv_i S135 3 7).toInt ∧ (mv_i S135 3 7).toInt < sz ∧ ((mv_i S135 3 9).toInt < 0 → a + 2 ≤ (mv_i S135 3 7).toInt) := by rw [eS135]; exact t7
      have t8 : (mv_i S135 3 8).toInt = (mv_i σ 3 8).toInt := by rw [eS135]; exact t8
      clear eS135
      refine mv_lpick [2, 3, 4, 1, 0, 5, 7] rfl ?_
      exact j135 _ _ _ _ _ _ _ hR hF hX t8 t7 b2
  have j52 : ∀ (υ : mv_H) (tk1 : Int32) (tk2 : Int32) (hR : Rw 48 (mv_r υ)) (hF : RF 48 σ υ) (hX : XM 48 th e0 bs BL f0 g0 ns υ (ms) (sm wt ms + 1) (sm wr ms + 1) (s0)) (t8 : (mv_i υ 3 8).toInt = (mv_i σ 3 8).toInt + 1) (t7 : 1 ≤ (mv_i υ 3 7).toInt ∧ (mv_i υ 3 7).toInt < sz ∧ ((mv_i υ 3 9).toInt < 0 → a + 2 ≤ (mv_i υ 3 7).toInt)) (b1 : 0 ≤ tk1.toInt ∧ tk1.toInt < sz) (b2 : 0 ≤ tk2.toInt ∧ tk2.toInt < sz) (kp : mv_a υ 4 = mv_a σ 4), mv_V p l e ({ frames := 3, cells := 0, slots := 0, locals := 63 }) s m ([.ref (al 22)] : List Value).toArray below meth c (mg dA D al ext) 12 0 0 (mv_Q (mg dA D al ext) below s 0 0 (mv_Rv (fun σ1 => RF 48 σ σ1 ∧ Mt (mv_a σ1 24) ∧ (0 ≤ (mv_i σ1 3 9).toInt ∨ ∃ ms2 s2 a2, a < a2 ∧ XM 48 th e0 bs BL f0 g0 ns σ1 (ms2) (sm wt ms2 + 1) (sm wr ms2 + 1) (s2) ∧ TI σ1 sz bd ms2 s2 a2)))) υ 52 [(2, .int tk2), (1, .int tk1), (0, .ref (al 22))] [] := by
    intro υ tk1 tk2 hR hF hX t8 t7 b1 b2 kp
    refine mv_aload_n (pc := 52) B d_Exprs_part_52 rfl 2 rfl ?_
    refine mv_getR (pc := 53) (ci := 6) (C := R_Exprs) (T := F_Exprs) (N := 11) B 0 rfl rfl (by decide) i_Exprs (B.2.2.2.1 _ k_193) rfl (hR.1 _ 0 _ rfl) d_Exprs_part_53 ?_
    refine mv_bipush (pc := 56) (v := 93) B d_Exprs_part_56 (by decide) ?_
    refine mv_callVi (pc := 58) (n := 1) (ci := 2) (C := R_Tokens) B (mK_ok sk sv) hNs rfl rfl (c_Tokens_closeN l hi _ _ hR.1 (hB0.rf hF hP ht2).2.1 (by omega) (by omega) (by decide)) rfl (ma_goodc kc_Tokens_close) (B.2.2.2.1 _ k_1468) (B.2.2.2.1 _ k_1397) (B.2.2.2.1 _ k_1398) (B.2.2.2.1 _ k_3) ⟨by decide +kernel, by decide +kernel, by decide +kernel⟩ rfl d_Exprs_part_58 rfl (Nat.le_of_ble_eq_true rfl) ⟨by decide, by decide⟩ ⟨by decide, by decide⟩ ⟨by decide, by decide⟩ (mv_noH hno _) (fun v58 σ58 h58 => ?_)
    obtain ⟨a58, w58, e58, r58⟩ := h58
    have q58 := r58.1
    have z58 := fun q => (r58.2.1 q).1
    have y58 := And.intro r58.2.2.2.1 r58.2.2.2.2.1
    subst e58
    refine mv_gen (fun S61 eS61 => ?_)
    have hR : Rw 48 (mv_r S61) := by rw [eS61]; exact hR
    have hF : RF 48 σ S61 := by rw [eS61]; exact hF.tk3 _ _ _
    have hX : XM 48 th e0 bs BL f0 g0 ns S61 (ms) (sm wt ms + 1) (sm wr ms + 1) (s0) := by rw [eS61]; exact hX.tk3 hP _ _ _
    have t7 : (mv_i S61 3 7).toInt = a58.toInt := by rw [eS61]; rfl
    have t8 : (mv_i S61 3 8).toInt = (mv_i σ 3 8).toInt := by rw [eS61]; first | exact t8 | exact (sub_one (by omega)).trans (by omega) | exact (i32_inc (by omega)).trans (by omega)
    have t9 : (mv_i S61 3 9).toInt = w58.toInt := by rw [eS61]; rfl
    have kS61 : mv_a S61 4 = mv_a σ 4 := by rw [eS61]; first | rfl | exact kp
    have kp := kS61
    have t7 : 1 ≤ (mv_i S61 3 7).toInt ∧ (mv_i S61 3 7).toInt < sz ∧ ((mv_i S61 3 9).toInt < 0 → a + 2 ≤ (mv_i S61 3 7).toInt) := by omega
    clear eS61
    refine mv_pop (pc := 61) B d_Exprs_part_61 rfl ?_
    refine mv_aload_n (pc := 62) B d_Exprs_part_62 rfl 2 rfl ?_
    refine mv_callVi (pc := 63) (n := 0) (ci := 6) (C := R_Exprs) B (mK_ok sk sv) hNs rfl rfl (c_Exprs_release l hi _ hR.1 (by have := hX.1.2.2.1; omega) (by have := hX.1.2.2.1; omega)) rfl (ma_goodc kc_Exprs_release) (B.2.2.2.1 _ k_1469) (B.2.2.2.1 _ k_1470) (B.2.2.2.1 _ k_1471) (B.2.2.2.1 _ k_7) ⟨by decide +kernel, by decide +kernel, by decide +kernel⟩ rfl d_Exprs_part_63 rfl (Nat.le_of_ble_eq_true rfl) ⟨by decide, by decide⟩ ⟨by decide, by decide⟩ ⟨by decide, by decide⟩ (mv_noH hno _) (fun v63 σ63 h63 => ?_)
    subst h63
    refine mv_gen (fun S66 eS66 => ?_)
    have hR : Rw 48 (mv_r S66) := by rw [eS66]; exact hR
    have hF : RF 48 σ S66 := by rw [eS66]; exact hF.rel
    have hX : XM 48 th e0 bs BL f0 g0 ns S66 (ms) (sm wt ms) (sm wr ms + 1) (s0) := by rw [eS66]; exact hX.rel hP
    have t7 : 1 ≤ (mv_i S66 3 7).toInt ∧ (mv_i S66 3 7).toInt < sz ∧ ((mv_i S66 3 9).toInt < 0 → a + 2 ≤ (mv_i S66 3 7).toInt) := by rw [eS66]; exact t7
    have t8 : (mv_i S66 3 8).toInt = (mv_i σ 3 8).toInt := by rw [eS66]; exact t8
    clear eS66
    refine mv_istore_n (pc := 66) B d_Exprs_part_66 rfl (by decide) rfl ?_
    refine mv_aload_n (pc := 67) B d_Exprs_part_67 rfl 3 rfl ?_
    refine mv_getR (pc := 68) (ci := 6) (C := R_Exprs) (T := F_Exprs) (N := 11) B 0 rfl rfl (by decide) i_Exprs (B.2.2.2.1 _ k_193) rfl (hR.1 _ 0 _ rfl) d_Exprs_part_68 ?_
    refine mv_getR (pc := 71) (ci := 2) (C := R_Tokens) (T := F_Tokens) (N := 10) B 2 rfl rfl (by decide) i_Tokens (B.2.2.2.1 _ k_95) rfl (hR.1 _ 2 _ rfl) d_Exprs_part_71 ?_
    refine mv_iload_n (pc := 74) B d_Exprs_part_74 rfl 2 rfl ?_
    refine mv_lald (pc := 75) B rfl (i32_in b1.1 (by omega)) d_Exprs_part_75 ?_
    refine mv_lstore (pc := 76) B d_Exprs_part_76 (by decide) rfl ?_
    refine mv_aload_n (pc := 78) B d_Exprs_part_78 rfl 4 rfl ?_
    refine mv_getR (pc := 79) (ci := 6) (C := R_Exprs) (T := F_Exprs) (N := 11) B 0 rfl rfl (by decide) i_Exprs (B.2.2.2.1 _ k_193) rfl (hR.1 _ 0 _ rfl) d_Exprs_part_79 ?_
    refine mv_getR (pc := 82) (ci := 2) (C := R_Tokens) (T := F_Tokens) (N := 10) B 2 rfl rfl (by decide) i_Tokens (B.2.2.2.1 _ k_95) rfl (hR.1 _ 2 _ rfl) d_Exprs_part_82 ?_
    refine mv_iload_n (pc := 85) B d_Exprs_part_85 rfl 2 rfl ?_
    refine mv_lald (pc := 86) B rfl (i32_in b2.1 (by omega)) d_Exprs_part_86 ?_
    refine mv_lstore (pc := 87) B d_Exprs_part_87 (by decide) rfl ?_
    refine mv_iload_n (pc := 89) B d_Exprs_part_89 rfl 2 rfl ?_
    refine mv_if_le (pc := 90) (tgt := 112) B d_Exprs_part_90 rfl (fun h90 => ?_) (fun h90 => ?_)
    · skip
      refine mv_iconst (pc := 112) (v := 0) B d_Exprs_part_112 (by decide) ?_
      refine mv_lpick [2, 1, 0, 5, 4, 3] rfl ?_
      exact j113 _ _ _ _ _ _ _ hR hF hX t8 t7 b1 b2
    · skip
      refine mv_lload (pc := 93) B d_Exprs_part_93 1 rfl ?_
      refine mv_lconst (pc := 95) (v := 0) B d_Exprs_part_95 (by decide) ?_
      refine mv_lcmp (pc := 96) B d_Exprs_part_96 ?_
      refine mv_if_lt (pc := 97) (tgt := 108) B d_Exprs_part_97 rfl (fun h97 => ?_) (fun h97 => ?_)
      · skip
        refine mv_iconst (pc := 108) (v := 1) B d_Exprs_part_108 (by decide) ?_
        refine mv_goto (pc := 109) (tgt := 113) B d_Exprs_part_109 rfl ?_
        refine mv_lpick [2, 1, 0, 5, 4, 3] rfl ?_
        exact j113 _ _ _ _ _ _ _ hR hF hX t8 t7 b1 b2
      · skip
        refine mv_lload (pc := 100) B d_Exprs_part_100 1 rfl ?_
        refine mv_iload_n (pc := 102) B d_Exprs_part_102 rfl 2 rfl ?_
        refine mv_i2l (pc := 103) B d_Exprs_part_103 ?_
        refine mv_lcmp (pc := 104) B d_Exprs_part_104 ?_
        refine mv_if_lt (pc := 105) (tgt := 112) B d_Exprs_part_105 rfl (fun h105 => ?_) (fun h105 => ?_)
        · skip
          refine mv_iconst (pc := 112) (v := 0) B d_Exprs_part_112 (by decide) ?_
          refine mv_lpick [2, 1, 0, 5, 4, 3] rfl ?_
          exact j113 _ _ _ _ _ _ _ hR hF hX t8 t7 b1 b2
        · skip
          refine mv_iconst (pc := 108) (v := 1) B d_Exprs_part_108 (by decide) ?_
          refine mv_goto (pc := 109) (tgt := 113) B d_Exprs_part_109 rfl ?_
          refine mv_lpick [2, 1, 0, 5, 4, 3] rfl ?_
          exact j113 _ _ _ _ _ _ _ hR hF hX t8 t7 b1 b2
  refine mv_aload_n (pc := 0) B d_Exprs_part_0 rfl 0 rfl ?_
  refine mv_getR (pc := 1) (ci := 6) (C := R_Exprs) (T := F_Exprs) (N := 11) B 0 rfl rfl (by decide) i_Exprs (B.2.2.2.1 _ k_193) rfl (hR.1 _ 0 _ rfl) d_Exprs_part_1 ?_
  refine mv_bipush (pc := 4) (v := 91) B d_Exprs_part_4 (by decide) ?_
  refine mv_callVi (pc := 6) (n := 1) (ci := 2) (C := R_Tokens) B (mK_ok sk sv) hNs rfl rfl (c_Tokens_openN l hi _ _ hR.1 (hB0.rf hF hP ht2).2.1 (by omega) (by omega) (by decide)) rfl (ma_goodc kc_Tokens_open) (B.2.2.2.1 _ k_1415) (B.2.2.2.1 _ k_1350) (B.2.2.2.1 _ k_1351) (B.2.2.2.1 _ k_3) ⟨by decide +kernel, by decide +kernel, by decide +kernel⟩ rfl d_Exprs_part_6 rfl (Nat.le_of_ble_eq_true rfl) ⟨by decide, by decide⟩ ⟨by decide, by decide⟩ ⟨by decide, by decide⟩ (mv_noH hno _) (fun v6 σ6 h6 => ?_)
  obtain ⟨a6, w6, e6, r6⟩ := h6
  have q6 := r6.1
  have z6 := fun q => (r6.2.1 q).1
  have y6 := And.intro r6.2.2.2.1 r6.2.2.2.2.1
  subst e6
  refine mv_gen (fun S9 eS9 => ?_)
  have hR : Rw 48 (mv_r S9) := by rw [eS9]; exact hR
  have hF : RF 48 σ S9 := by rw [eS9]; exact hF.tk3 _ _ _
  have hX : XM 48 th e0 bs BL f0 g0 ns S9 (ms) (sm wt ms + 1) (sm wr ms + 1) (s0) := by rw [eS9]; exact hX.tk3 hP _ _ _
  have t7 : (mv_i S9 3 7).toInt = a6.toInt := by rw [eS9]; rfl
  have t8 : (mv_i S9 3 8).toInt = (mv_i σ 3 8).toInt + 1 := by rw [eS9]; first | exact t8 | exact (sub_one (by omega)).trans (by omega) | exact (i32_inc (by omega)).trans (by omega)
  have t9 : (mv_i S9 3 9).toInt = w6.toInt := by rw [eS9]; rfl
  have kS9 : mv_a S9 4 = mv_a σ 4 := by rw [eS9]; first | rfl | exact kp
  have kp := kS9
  clear eS9
  refine mv_pop (pc := 9) B d_Exprs_part_9 rfl ?_
  refine mv_aload_n (pc := 10) B d_Exprs_part_10 rfl 0 rfl ?_
  refine mv_getR (pc := 11) (ci := 6) (C := R_Exprs) (T := F_Exprs) (N := 11) B 0 rfl rfl (by decide) i_Exprs (B.2.2.2.1 _ k_193) rfl (hR.1 _ 0 _ rfl) d_Exprs_part_11 ?_
  refine mv_iconst (pc := 14) (v := 4) B d_Exprs_part_14 (by decide) ?_
  refine mv_callVi (pc := 15) (n := 1) (ci := 2) (C := R_Tokens) B (mK_ok sk sv) hNs rfl rfl (c_Tokens_takeN l hi _ _ hR.1 (hB0.rf hF hP ht2).2.1 (by omega) (by omega) (by decide)) rfl (ma_goodc kc_Tokens_take) (B.2.2.2.1 _ k_1424) (B.2.2.2.1 _ k_1267) (B.2.2.2.1 _ k_1268) (B.2.2.2.1 _ k_3) ⟨by decide +kernel, by decide +kernel, by decide +kernel⟩ rfl d_Exprs_part_15 rfl (Nat.le_of_ble_eq_true rfl) ⟨by decide, by decide⟩ ⟨by decide, by decide⟩ ⟨by decide, by decide⟩ (mv_noH hno _) (fun v15 σ15 h15 => ?_)
  obtain ⟨a15, w15, e15, r15⟩ := h15
  have q15 := r15.1
  have z15 := fun q => (r15.2.1 q).1
  have y15 := And.intro r15.2.2.2.1 r15.2.2.2.2.1
  subst e15
  refine mv_gen (fun S18 eS18 => ?_)
  have hR : Rw 48 (mv_r S18) := by rw [eS18]; exact hR
  have hF : RF 48 σ S18 := by rw [eS18]; exact hF.tk3 _ _ _
  have hX : XM 48 th e0 bs BL f0 g0 ns S18 (ms) (sm wt ms + 1) (sm wr ms + 1) (s0) := by rw [eS18]; exact hX.tk3 hP _ _ _
  have t7 : (mv_i S18 3 7).toInt = a15.toInt := by rw [eS18]; rfl
  have t8 : (mv_i S18 3 8).toInt = (mv_i σ 3 8).toInt + 1 := by rw [eS18]; first | exact t8 | exact (sub_one (by omega)).trans (by omega) | exact (i32_inc (by omega)).trans (by omega)
  have t9 : (mv_i S18 3 9).toInt = w15.toInt := by rw [eS18]; rfl
  have kS18 : mv_a S18 4 = mv_a σ 4 := by rw [eS18]; first | rfl | exact kp
  have kp := kS18
  clear eS18
  refine mv_istore_n (pc := 18) B d_Exprs_part_18 rfl (by decide) rfl ?_
  refine mv_iload_n (pc := 19) B d_Exprs_part_19 rfl 0 rfl ?_
  refine mv_istore_n (pc := 20) B d_Exprs_part_20 rfl (by decide) rfl ?_
  refine mv_aload_n (pc := 21) B d_Exprs_part_21 rfl 2 rfl ?_
  refine mv_getR (pc := 22) (ci := 6) (C := R_Exprs) (T := F_Exprs) (N := 11) B 0 rfl rfl (by decide) i_Exprs (B.2.2.2.1 _ k_193) rfl (hR.1 _ 0 _ rfl) d_Exprs_part_22 ?_
  refine mv_callVi (pc := 25) (n := 0) (ci := 2) (C := R_Tokens) B (mK_ok sk sv) hNs rfl rfl (c_Tokens_kind l hi _ hR.1 (i32_in (by omega) (by omega))) rfl (ma_goodc kc_Tokens_kind) (B.2.2.2.1 _ k_1414) (B.2.2.2.1 _ k_1271) (B.2.2.2.1 _ k_1272) (B.2.2.2.1 _ k_3) ⟨by decide +kernel, by decide +kernel, by decide +kernel⟩ rfl d_Exprs_part_25 rfl (Nat.le_of_ble_eq_true rfl) ⟨by decide, by decide⟩ ⟨by decide, by decide⟩ ⟨by decide, by decide⟩ (mv_noH hno _) (fun v25 σ25 h25 => ?_)
  obtain ⟨e25, -⟩ := h25
  have e25 := e25.symm
  subst e25
  refine mv_bipush (pc := 28) (v := 58) B d_Exprs_part_28 (by decide) ?_
  refine mv_icmp_ne (pc := 30) (tgt := 52) B d_Exprs_part_30 rfl (fun h30 => ?_) (fun h30 => ?_)
  · skip
    have b2 := y15
    refine mv_lpick [0, 1, 2] rfl ?_
    exact j52 _ _ _ hR hF hX t8 (by omega) y15 b2 kp
  · skip
    refine mv_aload_n (pc := 33) B d_Exprs_part_33 rfl 2 rfl ?_
    refine mv_getR (pc := 34) (ci := 6) (C := R_Exprs) (T := F_Exprs) (N := 11) B 0 rfl rfl (by decide) i_Exprs (B.2.2.2.1 _ k_193) rfl (hR.1 _ 0 _ rfl) d_Exprs_part_34 ?_
    refine mv_bipush (pc := 37) (v := 58) B d_Exprs_part_37 (by decide) ?_
    refine mv_callVi (pc := 39) (n := 1) (ci := 2) (C := R_Tokens) B (mK_ok sk sv) hNs rfl rfl (c_Tokens_takeN l hi _ _ hR.1 (hB0.rf hF hP ht2).2.1 (by omega) (by omega) (by decide)) rfl (ma_goodc kc_Tokens_take) (B.2.2.2.1 _ k_1424) (B.2.2.2.1 _ k_1267) (B.2.2.2.1 _ k_1268) (B.2.2.2.1 _ k_3) ⟨by decide +kernel, by decide +kernel, by decide +kernel⟩ rfl d_Exprs_part_39 rfl (Nat.le_of_ble_eq_true rfl) ⟨by decide, by decide⟩ ⟨by decide, by decide⟩ ⟨by decide, by decide⟩ (mv_noH hno _) (fun v39 σ39 h39 => ?_)
    obtain ⟨a39, w39, e39, r39⟩ := h39
    have q39 := r39.1
    have z39 := fun q => (r39.2.1 q).1
    have y39 := And.intro r39.2.2.2.1 r39.2.2.2.2.1
    subst e39
    refine mv_gen (fun S42 eS42 => ?_)
    have hR : Rw 48 (mv_r S42) := by rw [eS42]; exact hR
    have hF : RF 48 σ S42 := by rw [eS42]; exact hF.tk3 _ _ _
    have hX : XM 48 th e0 bs BL f0 g0 ns S42 (ms) (sm wt ms + 1) (sm wr ms + 1) (s0) := by rw [eS42]; exact hX.tk3 hP _ _ _
    have t7 : (mv_i S42 3 7).toInt = a39.toInt := by rw [eS42]; rfl
    have t8 : (mv_i S42 3 8).toInt = (mv_i σ 3 8).toInt + 1 := by rw [eS42]; first | exact t8 | exact (sub_one (by omega)).trans (by omega) | exact (i32_inc (by omega)).trans (by omega)
    have t9 : (mv_i S42 3 9).toInt = w39.toInt := by rw [eS42]; rfl
    have kS42 : mv_a S42 4 = mv_a σ 4 := by rw [eS42]; first | rfl | exact kp
    have kp := kS42
    clear eS42
    refine mv_pop (pc := 42) B d_Exprs_part_42 rfl ?_
    refine mv_aload_n (pc := 43) B d_Exprs_part_43 rfl 2 rfl ?_
    refine mv_getR (pc := 44) (ci := 6) (C := R_Exprs) (T := F_Exprs) (N := 11) B 0 rfl rfl (by decide) i_Exprs (B.2.2.2.1 _ k_193) rfl (hR.1 _ 0 _ rfl) d_Exprs_part_44 ?_
    refine mv_iconst (pc := 47) (v := 4) B d_Exprs_part_47 (by decide) ?_
    refine mv_callVi (pc := 48) (n := 1) (ci := 2) (C := R_Tokens) B (mK_ok sk sv) hNs rfl rfl (c_Tokens_takeN l hi _ _ hR.1 (hB0.rf hF hP ht2).2.1 (by omega) (by omega) (by decide)) rfl (ma_goodc kc_Tokens_take) (B.2.2.2.1 _ k_1424) (B.2.2.2.1 _ k_1267) (B.2.2.2.1 _ k_1268) (B.2.2.2.1 _ k_3) ⟨by decide +kernel, by decide +kernel, by decide +kernel⟩ rfl d_Exprs_part_48 rfl (Nat.le_of_ble_eq_true rfl) ⟨by decide, by decide⟩ ⟨by decide, by decide⟩ ⟨by decide, by decide⟩ (mv_noH hno _) (fun v48 σ48 h48 => ?_)
    obtain ⟨a48, w48, e48, r48⟩ := h48
    have q48 := r48.1
    have z48 := fun q => (r48.2.1 q).1
    have y48 := And.intro r48.2.2.2.1 r48.2.2.2.2.1
    subst e48
    refine mv_gen (fun S51 eS51 => ?_)
    have hR : Rw 48 (mv_r S51) := by rw [eS51]; exact hR
    have hF : RF 48 σ S51 := by rw [eS51]; exact hF.tk3 _ _ _
    have hX : XM 48 th e0 bs BL f0 g0 ns S51 (ms) (sm wt ms + 1) (sm wr ms + 1) (s0) := by rw [eS51]; exact hX.tk3 hP _ _ _
    have t7 : (mv_i S51 3 7).toInt = a48.toInt := by rw [eS51]; rfl
    have t8 : (mv_i S51 3 8).toInt = (mv_i σ 3 8).toInt + 1 := by rw [eS51]; first | exact t8 | exact (sub_one (by omega)).trans (by omega) | exact (i32_inc (by omega)).trans (by omega)
    have t9 : (mv_i S51 3 9).toInt = w48.toInt := by rw [eS51]; rfl
    have kS51 : mv_a S51 4 = mv_a σ 4 := by rw [eS51]; first | rfl | exact kp
    have kp := kS51
    clear eS51
    have b2 := y48
    refine mv_istore_n (pc := 51) B d_Exprs_part_51 rfl (by decide) rfl ?_
    refine mv_lpick [0, 1, 2] rfl ?_
    exact j52 _ _ _ hR hF hX t8 (by omega) y15 b2 kp
set_option maxHeartbeats 4000000 in
set_option maxRecDepth 100000 in
theorem c_Exprs_part_c (l : Launch) {dA : FieldType → ClassId} {D : va_G} {al : Nat → Nat} {sk sv : Nat → Nat} (hi : mv_inj (mg dA D al me)) (σ : mv_H) {t len n z sz th sl e0 bs ns : Nat} {BL : (Nat → Nat) → Prop} {f0 : Nat → Int32} {g0 : Nat → Int64} {ms : List Mk} {s0 bd a : Nat} (hB0 : SB 145 σ t len n z sz th sl) (ht2 : t = 1 ∨ t = 144) (hX : XM 145 th e0 bs BL f0 g0 ns σ (ms) (sm wt ms + 1) (sm wr ms + 1) (s0)) (hI : TI σ sz bd ms s0 a) (hlen : len ≤ 8192) (hbs : bs ≤ 1) (hk3 : mv_a σ 4 (mv_i σ 3 7).toNatClampNeg = 91) : mv_C l y_Exprs_part (Cond.code y_Exprs_part b_Exprs_part 12 (Option.none : Option Jvm.ClassFile.FieldType) :: ma) ({ frames := 3, cells := 0, slots := 0, locals := 63 }) (mg dA D al me) (mK sk sv) [.ref (al 22)] σ (mv_Rv (fun σ1 => RF 145 σ σ1 ∧ Mt (mv_a σ1 24) ∧ (0 ≤ (mv_i σ1 3 9).toInt ∨ ∃ ms2 s2 a2, a < a2 ∧ XM 145 th e0 bs BL f0 g0 ns σ1 (ms2) (sm wt ms2 + 1) (sm wr ms2 + 1) (s2) ∧ TI σ1 sz bd ms2 s2 a2))) := by
  refine mv_C.ofV (cc := b_Exprs_part) (nL := 12) (ret := (Option.none : Option Jvm.ClassFile.FieldType)) (by decide +kernel) rfl hi (Nat.le_of_ble_eq_true rfl) ?_
  intro p e s m below meth c B hNs hr hnm hno
  have hP : PQ 145 := by unfold PQ; omega
  have hR := hB0.1
  have hF : RF 145 σ σ := RF0
  have hT : mv_i σ 3 = mv_i σ 3 := rfl
  have hsz := hB0.2.1.2.2.2.2.2
  have hsz2 := hB0.2.1.2.2.2.1
  have hI5 := hI.2.2.2.2.1
  have ha9 := hI.2.2.2.2.2.1
  have pl := hI.len hX
  have hm8 := hX.1.1
  have t7 := hI.1
  have hw9 := hI.2.1
  have t9 : (mv_i σ 3 9).toInt = (mv_i σ 3 9).toInt := rfl
  have hd8 := hI.2.2.1
  have hd9 := hI.2.2.2.1
  have hWm := hI.2.2.2.2.2.2
  have kp : mv_a σ 4 = mv_a σ 4 := rfl
  have t8 : (mv_i σ 3 8).toInt = (mv_i σ 3 8).toInt := rfl
  have j184 : ∀ (υ : mv_H) (wi : Int32) (lo : Int64) (hR : Rw 145 (mv_r υ)) (hF : RF 145 σ υ) (hX : XM 145 th e0 bs BL f0 g0 ns υ (ms) (sm wt ms) (sm wr ms + 1) (s0)) (t8 : (mv_i υ 3 8).toInt = (mv_i σ 3 8).toInt) (t7 : 1 ≤ (mv_i υ 3 7).toInt ∧ (mv_i υ 3 7).toInt < sz ∧ ((mv_i υ 3 9).toInt < 0 → a + 2 ≤ (mv_i υ 3 7).toInt)), mv_V p l e ({ frames := 3, cells := 0, slots := 0, locals := 63 }) s m ([.ref (al 22)] : List Value).toArray below meth c (mg dA D al me) 12 0 0 (mv_Q (mg dA D al me) below s 0 0 (mv_Rv (fun σ1 => RF 145 σ σ1 ∧ Mt (mv_a σ1 24) ∧ (0 ≤ (mv_i σ1 3 9).toInt ∨ ∃ ms2 s2 a2, a < a2 ∧ XM 145 th e0 bs BL f0 g0 ns σ1 (ms2) (sm wt ms2 + 1) (sm wr ms2 + 1) (s2) ∧ TI σ1 sz bd ms2 s2 a2)))) υ 184 [(6, .long lo), (0, .ref (al 22))] [.int wi] := by
    intro υ wi lo hR hF hX t8 t7
    refine mv_istore (pc := 184) B d_Exprs_part_184 (by decide) rfl ?_
    refine mv_aload_n (pc := 186) B d_Exprs_part_186 rfl 2 rfl ?_
    refine mv_getR (pc := 187) (ci := 6) (C := R_Exprs) (T := F_Exprs) (N := 11) B 3 rfl rfl (by decide) i_Exprs (B.2.2.2.1 _ k_197) rfl hR.2.2.2 d_Exprs_part_187 ?_
    refine mv_sipush (pc := 190) (v := 308) B d_Exprs_part_190 (by decide) ?_
    refine mv_lload (pc := 193) B d_Exprs_part_193 1 rfl ?_
    refine mv_ldc2 (pc := 195) (v := 255) B (B.2.2.2.1 _ k_1477) d_Exprs_part_195 ?_
    refine mv_land (pc := 198) B d_Exprs_part_198 ?_
    refine mv_iload (pc := 199) B d_Exprs_part_199 0 rfl ?_
    refine mv_i2l (pc := 201) B d_Exprs_part_201 ?_
    refine mv_bipush (pc := 202) (v := 8) B d_Exprs_part_202 (by decide) ?_
    refine mv_lshl (pc := 204) B d_Exprs_part_204 ?_
    refine mv_lor (pc := 205) B d_Exprs_part_205 ?_
    refine mv_callVi (pc := 206) (n := 2) (ci := 7) (C := R_Program) B (mK_ok sk sv) hNs rfl rfl (c_Program_emit_c l hi _ _ _ hR.2.1 (by have := hX.2.1.1; omega) (by have := hX.2.1.1; omega)) rfl (ma_goodc kc_Program_emit) (B.2.2.2.1 _ k_1425) (B.2.2.2.1 _ k_1385) (B.2.2.2.1 _ k_1386) (B.2.2.2.1 _ k_8) ⟨by decide +kernel, by decide +kernel, by decide +kernel⟩ rfl d_Exprs_part_206 rfl (Nat.le_of_ble_eq_true rfl) ⟨by decide, by decide⟩ ⟨by decide, by decide⟩ ⟨by decide, by decide⟩ (mv_noH hno _) (fun v206 σ206 h206 => ?_)
    obtain ⟨e206, -⟩ := h206
    subst e206
    refine mv_gen (fun S209 eS209 => ?_)
    have hR : Rw 145 (mv_r S209) := by rw [eS209]; exact hR
    have hF : RF 145 σ S209 := by rw [eS209]; exact hF.emit _ _
    have hX : XM 145 th e0 bs BL f0 g0 ns S209 (ms) (sm wt ms) (sm wr ms + 1) (s0 + 1) := by rw [eS209]; exact hX.emit0 hP (by omega) (sm wr ms + 1) (by decide) (by decide) (Op1_one (Or.inl rfl) th _ (bs + sm wr ms)) (by omega)
    have t7 : 1 ≤ (mv_i S209 3 7).toInt ∧ (mv_i S209 3 7).toInt < sz ∧ ((mv_i S209 3 9).toInt < 0 → a + 2 ≤ (mv_i S209 3 7).toInt) := by rw [eS209]; exact t7
    have t8 : (mv_i S209 3 8).toInt = (mv_i σ 3 8).toInt := by rw [eS209]; exact t8
    clear eS209
    refine mv_pop (pc := 209) B d_Exprs_part_209 rfl ?_
    refine mv_aload_n (pc := 210) B d_Exprs_part_210 rfl 2 rfl ?_
    refine mv_iload (pc := 211) B d_Exprs_part_211 0 rfl ?_
    refine mv_callVv (pc := 213) (n := 1) (ci := 6) (C := R_Exprs) B (mK_ok sk sv) hNs rfl rfl (c_Exprs_hold l hi _ _ hR.1 (by have := hX.1.2.2.1; omega) (by have := hX.1.2.2.1; omega)) rfl (ma_goodc kc_Exprs_hold) (B.2.2.2.1 _ k_1432) (B.2.2.2.1 _ k_1434) (B.2.2.2.1 _ ks_51) (B.2.2.2.1 _ k_7) ⟨by decide +kernel, by decide +kernel, by decide +kernel⟩ rfl d_Exprs_part_213 rfl (Nat.le_of_ble_eq_true rfl) ⟨by decide, by decide⟩ ⟨by decide, by decide⟩ ⟨by decide, by decide⟩ (mv_noH hno _) (fun σ213 h213 => ?_)
    subst h213
    refine mv_gen (fun S216 eS216 => ?_)
    have hR : Rw 145 (mv_r S216) := by rw [eS216]; exact hR
    have hF : RF 145 σ S216 := by rw [eS216]; exact hF.hold _
    have hX : XM 145 th e0 bs BL f0 g0 ns S216 (ms) (sm wt ms + 1) (sm wr ms + 1) (s0 + 1) := by rw [eS216]; exact hX.hold hP (by omega) _
    have t7 : 1 ≤ (mv_i S216 3 7).toInt ∧ (mv_i S216 3 7).toInt < sz ∧ ((mv_i S216 3 9).toInt < 0 → a + 2 ≤ (mv_i S216 3 7).toInt) := by rw [eS216]; exact t7
    have t8 : (mv_i S216 3 8).toInt = (mv_i σ 3 8).toInt := by rw [eS216]; exact t8
    have hend : 0 ≤ (mv_i S216 3 9).toInt ∨ ∃ ms2 s2 a2, a < a2 ∧ XM 145 th e0 bs BL f0 g0 ns S216 (ms2) (sm wt ms2 + 1) (sm wr ms2 + 1) (s2) ∧ TI S216 sz bd ms2 s2 a2 := by
      by_cases hw : (mv_i S216 3 9).toInt < 0
      · exact Or.inr ⟨ms, s0 + 1, (mv_i S216 3 7).toInt.toNat, by omega, hX, by omega, hw, by omega, by omega, by omega, by omega, hWm.up (by omega)⟩
      · exact Or.inl (by omega)
    clear eS216
    exact mv_vret (pc := 216) B hr d_Exprs_part_216 (Nat.le_refl _) (Nat.le_refl _) ⟨rfl, hF, hX.1.2.2.2.1, hend⟩
  have j165 : ∀ (υ : mv_H) (fl : Int32) (hg9 : Int64) (lo : Int64) (hR : Rw 145 (mv_r υ)) (hF : RF 145 σ υ) (hX : XM 145 th e0 bs BL f0 g0 ns υ (ms) (sm wt ms) (sm wr ms + 1) (s0)) (t8 : (mv_i υ 3 8).toInt = (mv_i σ 3 8).toInt) (t7 : 1 ≤ (mv_i υ 3 7).toInt ∧ (mv_i υ 3 7).toInt < sz ∧ ((mv_i υ 3 9).toInt < 0 → a + 2 ≤ (mv_i υ 3 7).toInt)), mv_V p l e ({ frames := 3, cells := 0, slots := 0, locals := 63 }) s m ([.ref (al 22)] : List Value).toArray below meth c (mg dA D al me) 12 0 0 (mv_Q (mg dA D al me) below s 0 0 (mv_Rv (fun σ1 => RF 145 σ σ1 ∧ Mt (mv_a σ1 24) ∧ (0 ≤ (mv_i σ1 3 9).toInt ∨ ∃ ms2 s2 a2, a < a2 ∧ XM 145 th e0 bs BL f0 g0 ns σ1 (ms2) (sm wt ms2 + 1) (sm wr ms2 + 1) (s2) ∧ TI σ1 sz bd ms2 s2 a2)))) υ 165 [(4, .long hg9), (6, .long lo), (0, .ref (al 22))] [.int fl] := by
    intro υ fl hg9 lo hR hF hX t8 t7
    refine mv_istore (pc := 165) B d_Exprs_part_165 (by decide) rfl ?_
    refine mv_iload (pc := 167) B d_Exprs_part_167 0 rfl ?_
    refine mv_if_eq (pc := 169) (tgt := 176) B d_Exprs_part_169 rfl (fun h169 => ?_) (fun h169 => ?_)
    · skip
      refine mv_lload (pc := 176) B d_Exprs_part_176 1 rfl ?_
      refine mv_lload (pc := 178) B d_Exprs_part_178 2 rfl ?_
      refine mv_lsub (pc := 180) B d_Exprs_part_180 ?_
      refine mv_l2i (pc := 181) B d_Exprs_part_181 ?_
      refine mv_iconst (pc := 182) (v := 1) B d_Exprs_part_182 (by decide) ?_
      refine mv_iadd (pc := 183) B d_Exprs_part_183 ?_
      refine mv_lpick [2, 3] rfl ?_
      exact j184 _ _ _ hR hF hX t8 t7
    · skip
      refine mv_iconst (pc := 172) (v := 0) B d_Exprs_part_172 (by decide) ?_
      refine mv_goto (pc := 173) (tgt := 184) B d_Exprs_part_173 rfl ?_
      refine mv_lpick [2, 3] rfl ?_
      exact j184 _ _ _ hR hF hX t8 t7
  have j146 : ∀ (υ : mv_H) (wd9 : Int32) (hg9 : Int64) (lo : Int64) (f8 : Int32) (f9 : Int32) (hR : Rw 145 (mv_r υ)) (hF : RF 145 σ υ) (hX : XM 145 th e0 bs BL f0 g0 ns υ (ms) (sm wt ms) (sm wr ms + 1) (s0)) (t8 : (mv_i υ 3 8).toInt = (mv_i σ 3 8).toInt) (t7 : 1 ≤ (mv_i υ 3 7).toInt ∧ (mv_i υ 3 7).toInt < sz ∧ ((mv_i υ 3 9).toInt < 0 → a + 2 ≤ (mv_i υ 3 7).toInt)), mv_V p l e ({ frames := 3, cells := 0, slots := 0, locals := 63 }) s m ([.ref (al 22)] : List Value).toArray below meth c (mg dA D al me) 12 0 0 (mv_Q (mg dA D al me) below s 0 0 (mv_Rv (fun σ1 => RF 145 σ σ1 ∧ Mt (mv_a σ1 24) ∧ (0 ≤ (mv_i σ1 3 9).toInt ∨ ∃ ms2 s2 a2, a < a2 ∧ XM 145 th e0 bs BL f0 g0 ns σ1 (ms2) (sm wt ms2 + 1) (sm wr ms2 + 1) (s2) ∧ TI σ1 sz bd ms2 s2 a2)))) υ 146 [(3, .int wd9), (4, .long hg9), (6, .long lo), (8, .int f8), (9, .int f9), (0, .ref (al 22))] [] := by
    intro υ wd9 hg9 lo f8 f9 hR hF hX t8 t7
    refine mv_iload_n (pc := 146) B d_Exprs_part_146 rfl 0 rfl ?_
    refine mv_if_eq (pc := 147) (tgt := 160) B d_Exprs_part_147 rfl (fun h147 => ?_) (fun h147 => ?_)
    · skip
      refine mv_iconst (pc := 160) (v := 1) B d_Exprs_part_160 (by decide) ?_
      refine mv_goto (pc := 161) (tgt := 165) B d_Exprs_part_161 rfl ?_
      refine mv_lpick [1, 2, 5] rfl ?_
      exact j165 _ _ _ _ hR hF hX t8 t7
    · skip
      refine mv_iload (pc := 150) B d_Exprs_part_150 3 rfl ?_
      refine mv_if_ne (pc := 152) (tgt := 160) B d_Exprs_part_152 rfl (fun h152 => ?_) (fun h152 => ?_)
      · skip
        refine mv_iconst (pc := 160) (v := 1) B d_Exprs_part_160 (by decide) ?_
        refine mv_goto (pc := 161) (tgt := 165) B d_Exprs_part_161 rfl ?_
        refine mv_lpick [1, 2, 5] rfl ?_
        exact j165 _ _ _ _ hR hF hX t8 t7
      · skip
        refine mv_iload (pc := 155) B d_Exprs_part_155 4 rfl ?_
        refine mv_if_eq (pc := 157) (tgt := 164) B d_Exprs_part_157 rfl (fun h157 => ?_) (fun h157 => ?_)
        · skip
          refine mv_iconst (pc := 164) (v := 0) B d_Exprs_part_164 (by decide) ?_
          refine mv_lpick [1, 2, 5] rfl ?_
          exact j165 _ _ _ _ hR hF hX t8 t7
        · skip
          refine mv_iconst (pc := 160) (v := 1) B d_Exprs_part_160 (by decide) ?_
          refine mv_goto (pc := 161) (tgt := 165) B d_Exprs_part_161 rfl ?_
          refine mv_lpick [1, 2, 5] rfl ?_
          exact j165 _ _ _ _ hR hF hX t8 t7
  have j135 : ∀ (υ : mv_H) (wd9 : Int32) (hg9 : Int64) (lo : Int64) (f8 : Int32) (f9 : Int32) (tk2 : Int32) (hR : Rw 145 (mv_r υ)) (hF : RF 145 σ υ) (hX : XM 145 th e0 bs BL f0 g0 ns υ (ms) (sm wt ms) (sm wr ms + 1) (s0)) (t8 : (mv_i υ 3 8).toInt = (mv_i σ 3 8).toInt) (t7 : 1 ≤ (mv_i υ 3 7).toInt ∧ (mv_i υ 3 7).toInt < sz ∧ ((mv_i υ 3 9).toInt < 0 → a + 2 ≤ (mv_i υ 3 7).toInt)) (b2 : 0 ≤ tk2.toInt ∧ tk2.toInt < sz), mv_V p l e ({ frames := 3, cells := 0, slots := 0, locals := 63 }) s m ([.ref (al 22)] : List Value).toArray below meth c (mg dA D al me) 12 0 0 (mv_Q (mg dA D al me) below s 0 0 (mv_Rv (fun σ1 => RF 145 σ σ1 ∧ Mt (mv_a σ1 24) ∧ (0 ≤ (mv_i σ1 3 9).toInt ∨ ∃ ms2 s2 a2, a < a2 ∧ XM 145 th e0 bs BL f0 g0 ns σ1 (ms2) (sm wt ms2 + 1) (sm wr ms2 + 1) (s2) ∧ TI σ1 sz bd ms2 s2 a2)))) υ 135 [(3, .int wd9), (4, .long hg9), (6, .long lo), (8, .int f8), (9, .int f9), (0, .ref (al 22)), (2, .int tk2)] [] := by
    intro υ wd9 hg9 lo f8 f9 tk2 hR hF hX t8 t7 b2
    refine mv_iload (pc := 135) B d_Exprs_part_135 4 rfl ?_
    refine mv_if_eq (pc := 137) (tgt := 146) B d_Exprs_part_137 rfl (fun h137 => ?_) (fun h137 => ?_)
    · skip
      refine mv_lpick [0, 1, 2, 3, 4, 5] rfl ?_
      exact j146 _ _ _ _ _ _ hR hF hX t8 t7
    · skip
      refine mv_aload_n (pc := 140) B d_Exprs_part_140 rfl 5 rfl ?_
      refine mv_iload_n (pc := 141) B d_Exprs_part_141 rfl 6 rfl ?_
      refine mv_iconst (pc := 142) (v := 3) B d_Exprs_part_142 (by decide) ?_
      refine mv_callVv (pc := 143) (n := 2) (ci := 6) (C := R_Exprs) B (mK_ok sk sv) hNs rfl rfl (c_Exprs_tell l hi _ _ _ hR.1 b2.1 (by omega) (by decide)) rfl (ma_goodc kc_Exprs_tell) (B.2.2.2.1 _ k_1427) (B.2.2.2.1 _ k_1429) (B.2.2.2.1 _ ks_50) (B.2.2.2.1 _ k_7) ⟨by decide +kernel, by decide +kernel, by decide +kernel⟩ rfl d_Exprs_part_143 rfl (Nat.le_of_ble_eq_true rfl) ⟨by decide, by decide⟩ ⟨by decide, by decide⟩ ⟨by decide, by decide⟩ (mv_noH hno _) (fun σ143 h143 => ?_)
      obtain ⟨x9, y9, e143, z143⟩ := h143
      subst e143
      refine mv_gen (fun S146 eS146 => ?_)
      have hR : Rw 145 (mv_r S146) := by rw [eS146]; exact hR
      have hF : RF 145 σ S146 := by rw [eS146]; exact hF.tell _ _
      have hX : XM 145 th e0 bs BL f0 g0 ns S146 (ms) (sm wt ms) (sm wr ms + 1) (s0) := by rw [eS146]; exact hX.tell hP z143 _ _
      have t7 : 1 ≤ (mv_i S146 3 7).toInt ∧ (mv_i S146 3 7).toInt < sz ∧ ((mv_i S146 3 9).toInt < 0 → a + 2 ≤ (mv_i S146 3 7).toInt) := by rw [eS146]; exact t7
      have t8 : (mv_i S146 3 8).toInt = (mv_i σ 3 8).toInt := by rw [eS146]; exact t8
      clear eS146
      refine mv_lpick [0, 1, 2, 3, 4, 5] rfl ?_
      exact j146 _ _ _ _ _ _ hR hF hX t8 t7
  have j113 : ∀ (υ : mv_H) (fl : Int32) (wd9 : Int32) (hg9 : Int64) (lo : Int64) (tk1 : Int32) (tk2 : Int32) (hR : Rw 145 (mv_r υ)) (hF : RF 145 σ υ) (hX : XM 145 th e0 bs BL f0 g0 ns υ (ms) (sm wt ms) (sm wr ms + 1) (s0)) (t8 : (mv_i υ 3 8).toInt = (mv_i σ 3 8).toInt) (t7 : 1 ≤ (mv_i υ 3 7).toInt ∧ (mv_i υ 3 7).toInt < sz ∧ ((mv_i υ 3 9).toInt < 0 → a + 2 ≤ (mv_i υ 3 7).toInt)) (b1 : 0 ≤ tk1.toInt ∧ tk1.toInt < sz) (b2 : 0 ≤ tk2.toInt ∧ tk2.toInt < sz), mv_V p l e ({ frames := 3, cells := 0, slots := 0, locals := 63 }) s m ([.ref (al 22)] : List Value).toArray below meth c (mg dA D al me) 12 0 0 (mv_Q (mg dA D al me) below s 0 0 (mv_Rv (fun σ1 => RF 145 σ σ1 ∧ Mt (mv_a σ1 24) ∧ (0 ≤ (mv_i σ1 3 9).toInt ∨ ∃ ms2 s2 a2, a < a2 ∧ XM 145 th e0 bs BL f0 g0 ns σ1 (ms2) (sm wt ms2 + 1) (sm wr ms2 + 1) (s2) ∧ TI σ1 sz bd ms2 s2 a2)))) υ 113 [(3, .int wd9), (4, .long hg9), (6, .long lo), (0, .ref (al 22)), (1, .int tk1), (2, .int tk2)] [.int fl] := by
    intro υ fl wd9 hg9 lo tk1 tk2 hR hF hX t8 t7 b1 b2
    refine mv_istore (pc := 113) B d_Exprs_part_113 (by decide) rfl ?_
    refine mv_lload (pc := 115) B d_Exprs_part_115 2 rfl ?_
    refine mv_lload (pc := 117) B d_Exprs_part_117 3 rfl ?_
    refine mv_callSi (pc := 119) (n := 2) B (mK_ok sk sv) hNs (c_Bits_below l hi _ _ _) rfl (ma_goodc kc_Bits_below) (B.2.2.2.1 _ k_1473) (B.2.2.2.1 _ k_1474) (B.2.2.2.1 _ k_33) ⟨by decide +kernel, by decide +kernel, by decide +kernel⟩ rfl d_Exprs_part_119 rfl (Nat.le_of_ble_eq_true rfl) ⟨by decide, by decide⟩ ⟨by decide, by decide⟩ ⟨by decide, by decide⟩ (mv_noH hno _) (fun v119 σ119 h119 => ?_)
    have h119 := (show _ = _ from by first | exact h119 | exact h119.1).symm
    subst h119
    refine mv_istore (pc := 122) B d_Exprs_part_122 (by decide) rfl ?_
    refine mv_iload (pc := 124) B d_Exprs_part_124 1 rfl ?_
    refine mv_if_eq (pc := 126) (tgt := 135) B d_Exprs_part_126 rfl (fun h126 => ?_) (fun h126 => ?_)
    · skip
      refine mv_lpick [2, 3, 4, 1, 0, 5, 7] rfl ?_
      exact j135 _ _ _ _ _ _ _ hR hF hX t8 t7 b2
    · skip
      refine mv_aload_n (pc := 129) B d_Exprs_part_129 rfl 5 rfl ?_
      refine mv_iload_n (pc := 130) B d_Exprs_part_130 rfl 6 rfl ?_
      refine mv_iconst (pc := 131) (v := 3) B d_Exprs_part_131 (by decide) ?_
      refine mv_callVv (pc := 132) (n := 2) (ci := 6) (C := R_Exprs) B (mK_ok sk sv) hNs rfl rfl (c_Exprs_tell l hi _ _ _ hR.1 b1.1 (by omega) (by decide)) rfl (ma_goodc kc_Exprs_tell) (B.2.2.2.1 _ k_1427) (B.2.2.2.1 _ k_1429) (B.2.2.2.1 _ ks_50) (B.2.2.2.1 _ k_7) ⟨by decide +kernel, by decide +kernel, by decide +kernel⟩ rfl d_Exprs_part_132 rfl (Nat.le_of_ble_eq_true rfl) ⟨by decide, by decide⟩ ⟨by decide, by decide⟩ ⟨by decide, by decide⟩ (mv_noH hno _) (fun σ132 h132 => ?_)
      obtain ⟨x9, y9, e132, z132⟩ := h132
      subst e132
      refine mv_gen (fun S135 eS135 => ?_)
      have hR : Rw 145 (mv_r S135) := by rw [eS135]; exact hR
      have hF : RF 145 σ S135 := by rw [eS135]; exact hF.tell _ _
      have hX : XM 145 th e0 bs BL f0 g0 ns S135 (ms) (sm wt ms) (sm wr ms + 1) (s0) := by rw [eS135]; exact hX.tell hP z132 _ _
      have t7 : 1 ≤ (mv_i S135 3 7).toInt ∧ (mv_i S135 3 7).toInt < sz ∧ ((mv_i S135 3 9).toInt < 0 → a + 2 ≤ (mv_i S135 3 7).toInt) := by rw [eS135]; exact t7
      have t8 : (mv_i S135 3 8).toInt = (mv_i σ 3 8).toInt := by rw [eS135]; exact t8
      clear eS135
      refine mv_lpick [2, 3, 4, 1, 0, 5, 7] rfl ?_
      exact j135 _ _ _ _ _ _ _ hR hF hX t8 t7 b2
  have j52 : ∀ (υ : mv_H) (tk1 : Int32) (tk2 : Int32) (hR : Rw 145 (mv_r υ)) (hF : RF 145 σ υ) (hX : XM 145 th e0 bs BL f0 g0 ns υ (ms) (sm wt ms + 1) (sm wr ms + 1) (s0)) (t8 : (mv_i υ 3 8).toInt = (mv_i σ 3 8).toInt + 1) (t7 : 1 ≤ (mv_i υ 3 7).toInt ∧ (mv_i υ 3 7).toInt < sz ∧ ((mv_i υ 3 9).toInt < 0 → a + 2 ≤ (mv_i υ 3 7).toInt)) (b1 : 0 ≤ tk1.toInt ∧ tk1.toInt < sz) (b2 : 0 ≤ tk2.toInt ∧ tk2.toInt < sz) (kp : mv_a υ 4 = mv_a σ 4), mv_V p l e ({ frames := 3, cells := 0, slots := 0, locals := 63 }) s m ([.ref (al 22)] : List Value).toArray below meth c (mg dA D al me) 12 0 0 (mv_Q (mg dA D al me) below s 0 0 (mv_Rv (fun σ1 => RF 145 σ σ1 ∧ Mt (mv_a σ1 24) ∧ (0 ≤ (mv_i σ1 3 9).toInt ∨ ∃ ms2 s2 a2, a < a2 ∧ XM 145 th e0 bs BL f0 g0 ns σ1 (ms2) (sm wt ms2 + 1) (sm wr ms2 + 1) (s2) ∧ TI σ1 sz bd ms2 s2 a2)))) υ 52 [(2, .int tk2), (1, .int tk1), (0, .ref (al 22))] [] := by
    intro υ tk1 tk2 hR hF hX t8 t7 b1 b2 kp
    refine mv_aload_n (pc := 52) B d_Exprs_part_52 rfl 2 rfl ?_
    refine mv_getR (pc := 53) (ci := 6) (C := R_Exprs) (T := F_Exprs) (N := 11) B 0 rfl rfl (by decide) i_Exprs (B.2.2.2.1 _ k_193) rfl (hR.1 _ 0 _ rfl) d_Exprs_part_53 ?_
    refine mv_bipush (pc := 56) (v := 93) B d_Exprs_part_56 (by decide) ?_
    refine mv_callVi (pc := 58) (n := 1) (ci := 2) (C := R_Tokens) B (mK_ok sk sv) hNs rfl rfl (c_Tokens_closeN l hi _ _ hR.1 (hB0.rf hF hP ht2).2.1 (by omega) (by omega) (by decide)) rfl (ma_goodc kc_Tokens_close) (B.2.2.2.1 _ k_1468) (B.2.2.2.1 _ k_1397) (B.2.2.2.1 _ k_1398) (B.2.2.2.1 _ k_3) ⟨by decide +kernel, by decide +kernel, by decide +kernel⟩ rfl d_Exprs_part_58 rfl (Nat.le_of_ble_eq_true rfl) ⟨by decide, by decide⟩ ⟨by decide, by decide⟩ ⟨by decide, by decide⟩ (mv_noH hno _) (fun v58 σ58 h58 => ?_)
    obtain ⟨a58, w58, e58, r58⟩ := h58
    have q58 := r58.1
    have z58 := fun q => (r58.2.1 q).1
    have y58 := And.intro r58.2.2.2.1 r58.2.2.2.2.1
    subst e58
    refine mv_gen (fun S61 eS61 => ?_)
    have hR : Rw 145 (mv_r S61) := by rw [eS61]; exact hR
    have hF : RF 145 σ S61 := by rw [eS61]; exact hF.tk3 _ _ _
    have hX : XM 145 th e0 bs BL f0 g0 ns S61 (ms) (sm wt ms + 1) (sm wr ms + 1) (s0) := by rw [eS61]; exact hX.tk3 hP _ _ _
    have t7 : (mv_i S61 3 7).toInt = a58.toInt := by rw [eS61]; rfl
    have t8 : (mv_i S61 3 8).toInt = (mv_i σ 3 8).toInt := by rw [eS61]; first | exact t8 | exact (sub_one (by omega)).trans (by omega) | exact (i32_inc (by omega)).trans (by omega)
    have t9 : (mv_i S61 3 9).toInt = w58.toInt := by rw [eS61]; rfl
    have kS61 : mv_a S61 4 = mv_a σ 4 := by rw [eS61]; first | rfl | exact kp
    have kp := kS61
    have t7 : 1 ≤ (mv_i S61 3 7).toInt ∧ (mv_i S61 3 7).toInt < sz ∧ ((mv_i S61 3 9).toInt < 0 → a + 2 ≤ (mv_i S61 3 7).toInt) := by omega
    clear eS61
    refine mv_pop (pc := 61) B d_Exprs_part_61 rfl ?_
    refine mv_aload_n (pc := 62) B d_Exprs_part_62 rfl 2 rfl ?_
    refine mv_callVi (pc := 63) (n := 0) (ci := 6) (C := R_Exprs) B (mK_ok sk sv) hNs rfl rfl (c_Exprs_release l hi _ hR.1 (by have := hX.1.2.2.1; omega) (by have := hX.1.2.2.1; omega)) rfl (ma_goodc kc_Exprs_release) (B.2.2.2.1 _ k_1469) (B.2.2.2.1 _ k_1470) (B.2.2.2.1 _ k_1471) (B.2.2.2.1 _ k_7) ⟨by decide +kernel, by decide +kernel, by decide +kernel⟩ rfl d_Exprs_part_63 rfl (Nat.le_of_ble_eq_true rfl) ⟨by decide, by decide⟩ ⟨by decide, by decide⟩ ⟨by decide, by decide⟩ (mv_noH hno _) (fun v63 σ63 h63 => ?_)
    subst h63
    refine mv_gen (fun S66 eS66 => ?_)
    have hR : Rw 145 (mv_r S66) := by rw [eS66]; exact hR
    have hF : RF 145 σ S66 := by rw [eS66]; exact hF.rel
    have hX : XM 145 th e0 bs BL f0 g0 ns S66 (ms) (sm wt ms) (sm wr ms + 1) (s0) := by rw [eS66]; exact hX.rel hP
    have t7 : 1 ≤ (mv_i S66 3 7).toInt ∧ (mv_i S66 3 7).toInt < sz ∧ ((mv_i S66 3 9).toInt < 0 → a + 2 ≤ (mv_i S66 3 7).toInt) := by rw [eS66]; exact t7
    have t8 : (mv_i S66 3 8).toInt = (mv_i σ 3 8).toInt := by rw [eS66]; exact t8
    clear eS66
    refine mv_istore_n (pc := 66) B d_Exprs_part_66 rfl (by decide) rfl ?_
    refine mv_aload_n (pc := 67) B d_Exprs_part_67 rfl 3 rfl ?_
    refine mv_getR (pc := 68) (ci := 6) (C := R_Exprs) (T := F_Exprs) (N := 11) B 0 rfl rfl (by decide) i_Exprs (B.2.2.2.1 _ k_193) rfl (hR.1 _ 0 _ rfl) d_Exprs_part_68 ?_
    refine mv_getR (pc := 71) (ci := 2) (C := R_Tokens) (T := F_Tokens) (N := 10) B 2 rfl rfl (by decide) i_Tokens (B.2.2.2.1 _ k_95) rfl (hR.1 _ 2 _ rfl) d_Exprs_part_71 ?_
    refine mv_iload_n (pc := 74) B d_Exprs_part_74 rfl 2 rfl ?_
    refine mv_lald (pc := 75) B rfl (i32_in b1.1 (by omega)) d_Exprs_part_75 ?_
    refine mv_lstore (pc := 76) B d_Exprs_part_76 (by decide) rfl ?_
    refine mv_aload_n (pc := 78) B d_Exprs_part_78 rfl 4 rfl ?_
    refine mv_getR (pc := 79) (ci := 6) (C := R_Exprs) (T := F_Exprs) (N := 11) B 0 rfl rfl (by decide) i_Exprs (B.2.2.2.1 _ k_193) rfl (hR.1 _ 0 _ rfl) d_Exprs_part_79 ?_
    refine mv_getR (pc := 82) (ci := 2) (C := R_Tokens) (T := F_Tokens) (N := 10) B 2 rfl rfl (by decide) i_Tokens (B.2.2.2.1 _ k_95) rfl (hR.1 _ 2 _ rfl) d_Exprs_part_82 ?_
    refine mv_iload_n (pc := 85) B d_Exprs_part_85 rfl 2 rfl ?_
    refine mv_lald (pc := 86) B rfl (i32_in b2.1 (by omega)) d_Exprs_part_86 ?_
    refine mv_lstore (pc := 87) B d_Exprs_part_87 (by decide) rfl ?_
    refine mv_iload_n (pc := 89) B d_Exprs_part_89 rfl 2 rfl ?_
    refine mv_if_le (pc := 90) (tgt := 112) B d_Exprs_part_90 rfl (fun h90 => ?_) (fun h90 => ?_)
    · skip
      refine mv_iconst (pc := 112) (v := 0) B d_Exprs_part_112 (by decide) ?_
      refine mv_lpick [2, 1, 0, 5, 4, 3] rfl ?_
      exact j113 _ _ _ _ _ _ _ hR hF hX t8 t7 b1 b2
    · skip
      refine mv_lload (pc := 93) B d_Exprs_part_93 1 rfl ?_
      refine mv_lconst (pc := 95) (v := 0) B d_Exprs_part_95 (by decide) ?_
      refine mv_lcmp (pc := 96) B d_Exprs_part_96 ?_
      refine mv_if_lt (pc := 97) (tgt := 108) B d_Exprs_part_97 rfl (fun h97 => ?_) (fun h97 => ?_)
      · skip
        refine mv_iconst (pc := 108) (v := 1) B d_Exprs_part_108 (by decide) ?_
        refine mv_goto (pc := 109) (tgt := 113) B d_Exprs_part_109 rfl ?_
        refine mv_lpick [2, 1, 0, 5, 4, 3] rfl ?_
        exact j113 _ _ _ _ _ _ _ hR hF hX t8 t7 b1 b2
      · skip
        refine mv_lload (pc := 100) B d_Exprs_part_100 1 rfl ?_
        refine mv_iload_n (pc := 102) B d_Exprs_part_102 rfl 2 rfl ?_
        refine mv_i2l (pc := 103) B d_Exprs_part_103 ?_
        refine mv_lcmp (pc := 104) B d_Exprs_part_104 ?_
        refine mv_if_lt (pc := 105) (tgt := 112) B d_Exprs_part_105 rfl (fun h105 => ?_) (fun h105 => ?_)
        · skip
          refine mv_iconst (pc := 112) (v := 0) B d_Exprs_part_112 (by decide) ?_
          refine mv_lpick [2, 1, 0, 5, 4, 3] rfl ?_
          exact j113 _ _ _ _ _ _ _ hR hF hX t8 t7 b1 b2
        · skip
          refine mv_iconst (pc := 108) (v := 1) B d_Exprs_part_108 (by decide) ?_
          refine mv_goto (pc := 109) (tgt := 113) B d_Exprs_part_109 rfl ?_
          refine mv_lpick [2, 1, 0, 5, 4, 3] rfl ?_
          exact j113 _ _ _ _ _ _ _ hR hF hX t8 t7 b1 b2
  refine mv_aload_n (pc := 0) B d_Exprs_part_0 rfl 0 rfl ?_
  refine mv_getR (pc := 1) (ci := 6) (C := R_Exprs) (T := F_Exprs) (N := 11) B 0 rfl rfl (by decide) i_Exprs (B.2.2.2.1 _ k_193) rfl (hR.1 _ 0 _ rfl) d_Exprs_part_1 ?_
  refine mv_bipush (pc := 4) (v := 91) B d_Exprs_part_4 (by decide) ?_
  refine mv_callVi (pc := 6) (n := 1) (ci := 2) (C := R_Tokens) B (mK_ok sk sv) hNs rfl rfl (c_Tokens_openN l hi _ _ hR.1 (hB0.rf hF hP ht2).2.1 (by omega) (by omega) (by decide)) rfl (ma_goodc kc_Tokens_open) (B.2.2.2.1 _ k_1415) (B.2.2.2.1 _ k_1350) (B.2.2.2.1 _ k_1351) (B.2.2.2.1 _ k_3) ⟨by decide +kernel, by decide +kernel, by decide +kernel⟩ rfl d_Exprs_part_6 rfl (Nat.le_of_ble_eq_true rfl) ⟨by decide, by decide⟩ ⟨by decide, by decide⟩ ⟨by decide, by decide⟩ (mv_noH hno _) (fun v6 σ6 h6 => ?_)
  obtain ⟨a6, w6, e6, r6⟩ := h6
  have q6 := r6.1
  have z6 := fun q => (r6.2.1 q).1
  have y6 := And.intro r6.2.2.2.1 r6.2.2.2.2.1
  subst e6
  refine mv_gen (fun S9 eS9 => ?_)
  have hR : Rw 145 (mv_r S9) := by rw [eS9]; exact hR
  have hF : RF 145 σ S9 := by rw [eS9]; exact hF.tk3 _ _ _
  have hX : XM 145 th e0 bs BL f0 g0 ns S9 (ms) (sm wt ms + 1) (sm wr ms + 1) (s0) := by rw [eS9]; exact hX.tk3 hP _ _ _
  have t7 : (mv_i S9 3 7).toInt = a6.toInt := by rw [eS9]; rfl
  have t8 : (mv_i S9 3 8).toInt = (mv_i σ 3 8).toInt + 1 := by rw [eS9]; first | exact t8 | exact (sub_one (by omega)).trans (by omega) | exact (i32_inc (by omega)).trans (by omega)
  have t9 : (mv_i S9 3 9).toInt = w6.toInt := by rw [eS9]; rfl
  have kS9 : mv_a S9 4 = mv_a σ 4 := by rw [eS9]; first | rfl | exact kp
  have kp := kS9
  clear eS9
  refine mv_pop (pc := 9) B d_Exprs_part_9 rfl ?_
  refine mv_aload_n (pc := 10) B d_Exprs_part_10 rfl 0 rfl ?_
  refine mv_getR (pc := 11) (ci := 6) (C := R_Exprs) (T := F_Exprs) (N := 11) B 0 rfl rfl (by decide) i_Exprs (B.2.2.2.1 _ k_193) rfl (hR.1 _ 0 _ rfl) d_Exprs_part_11 ?_
  refine mv_iconst (pc := 14) (v := 4) B d_Exprs_part_14 (by decide) ?_
  refine mv_callVi (pc := 15) (n := 1) (ci := 2) (C := R_Tokens) B (mK_ok sk sv) hNs rfl rfl (c_Tokens_takeN l hi _ _ hR.1 (hB0.rf hF hP ht2).2.1 (by omega) (by omega) (by decide)) rfl (ma_goodc kc_Tokens_take) (B.2.2.2.1 _ k_1424) (B.2.2.2.1 _ k_1267) (B.2.2.2.1 _ k_1268) (B.2.2.2.1 _ k_3) ⟨by decide +kernel, by decide +kernel, by decide +kernel⟩ rfl d_Exprs_part_15 rfl (Nat.le_of_ble_eq_true rfl) ⟨by decide, by decide⟩ ⟨by decide, by decide⟩ ⟨by decide, by decide⟩ (mv_noH hno _) (fun v15 σ15 h15 => ?_)
  obtain ⟨a15, w15, e15, r15⟩ := h15
  have q15 := r15.1
  have z15 := fun q => (r15.2.1 q).1
  have y15 := And.intro r15.2.2.2.1 r15.2.2.2.2.1
  subst e15
  refine mv_gen (fun S18 eS18 => ?_)
  have hR : Rw 145 (mv_r S18) := by rw [eS18]; exact hR
  have hF : RF 145 σ S18 := by rw [eS18]; exact hF.tk3 _ _ _
  have hX : XM 145 th e0 bs BL f0 g0 ns S18 (ms) (sm wt ms + 1) (sm wr ms + 1) (s0) := by rw [eS18]; exact hX.tk3 hP _ _ _
  have t7 : (mv_i S18 3 7).toInt = a15.toInt := by rw [eS18]; rfl
  have t8 : (mv_i S18 3 8).toInt = (mv_i σ 3 8).toInt + 1 := by rw [eS18]; first | exact t8 | exact (sub_one (by omega)).trans (by omega) | exact (i32_inc (by omega)).trans (by omega)
  have t9 : (mv_i S18 3 9).toInt = w15.toInt := by rw [eS18]; rfl
  have kS18 : mv_a S18 4 = mv_a σ 4 := by rw [eS18]; first | rfl | exact kp
  have kp := kS18
  clear eS18
  refine mv_istore_n (pc := 18) B d_Exprs_part_18 rfl (by decide) rfl ?_
  refine mv_iload_n (pc := 19) B d_Exprs_part_19 rfl 0 rfl ?_
  refine mv_istore_n (pc := 20) B d_Exprs_part_20 rfl (by decide) rfl ?_
  refine mv_aload_n (pc := 21) B d_Exprs_part_21 rfl 2 rfl ?_
  refine mv_getR (pc := 22) (ci := 6) (C := R_Exprs) (T := F_Exprs) (N := 11) B 0 rfl rfl (by decide) i_Exprs (B.2.2.2.1 _ k_193) rfl (hR.1 _ 0 _ rfl) d_Exprs_part_22 ?_
  refine mv_callVi (pc := 25) (n := 0) (ci := 2) (C := R_Tokens) B (mK_ok sk sv) hNs rfl rfl (c_Tokens_kind l hi _ hR.1 (i32_in (by omega) (by omega))) rfl (ma_goodc kc_Tokens_kind) (B.2.2.2.1 _ k_1414) (B.2.2.2.1 _ k_1271) (B.2.2.2.1 _ k_1272) (B.2.2.2.1 _ k_3) ⟨by decide +kernel, by decide +kernel, by decide +kernel⟩ rfl d_Exprs_part_25 rfl (Nat.le_of_ble_eq_true rfl) ⟨by decide, by decide⟩ ⟨by decide, by decide⟩ ⟨by decide, by decide⟩ (mv_noH hno _) (fun v25 σ25 h25 => ?_)
  obtain ⟨e25, -⟩ := h25
  have e25 := e25.symm
  subst e25
  refine mv_bipush (pc := 28) (v := 58) B d_Exprs_part_28 (by decide) ?_
  refine mv_icmp_ne (pc := 30) (tgt := 52) B d_Exprs_part_30 rfl (fun h30 => ?_) (fun h30 => ?_)
  · skip
    have b2 := y15
    refine mv_lpick [0, 1, 2] rfl ?_
    exact j52 _ _ _ hR hF hX t8 (by omega) y15 b2 kp
  · skip
    refine mv_aload_n (pc := 33) B d_Exprs_part_33 rfl 2 rfl ?_
    refine mv_getR (pc := 34) (ci := 6) (C := R_Exprs) (T := F_Exprs) (N := 11) B 0 rfl rfl (by decide) i_Exprs (B.2.2.2.1 _ k_193) rfl (hR.1 _ 0 _ rfl) d_Exprs_part_34 ?_
    refine mv_bipush (pc := 37) (v := 58) B d_Exprs_part_37 (by decide) ?_
    refine mv_callVi (pc := 39) (n := 1) (ci := 2) (C := R_Tokens) B (mK_ok sk sv) hNs rfl rfl (c_Tokens_takeN l hi _ _ hR.1 (hB0.rf hF hP ht2).2.1 (by omega) (by omega) (by decide)) rfl (ma_goodc kc_Tokens_take) (B.2.2.2.1 _ k_1424) (B.2.2.2.1 _ k_1267) (B.2.2.2.1 _ k_1268) (B.2.2.2.1 _ k_3) ⟨by decide +kernel, by decide +kernel, by decide +kernel⟩ rfl d_Exprs_part_39 rfl (Nat.le_of_ble_eq_true rfl) ⟨by decide, by decide⟩ ⟨by decide, by decide⟩ ⟨by decide, by decide⟩ (mv_noH hno _) (fun v39 σ39 h39 => ?_)
    obtain ⟨a39, w39, e39, r39⟩ := h39
    have q39 := r39.1
    have z39 := fun q => (r39.2.1 q).1
    have y39 := And.intro r39.2.2.2.1 r39.2.2.2.2.1
    subst e39
    refine mv_gen (fun S42 eS42 => ?_)
    have hR : Rw 145 (mv_r S42) := by rw [eS42]; exact hR
    have hF : RF 145 σ S42 := by rw [eS42]; exact hF.tk3 _ _ _
    have hX : XM 145 th e0 bs BL f0 g0 ns S42 (ms) (sm wt ms + 1) (sm wr ms + 1) (s0) := by rw [eS42]; exact hX.tk3 hP _ _ _
    have t7 : (mv_i S42 3 7).toInt = a39.toInt := by rw [eS42]; rfl
    have t8 : (mv_i S42 3 8).toInt = (mv_i σ 3 8).toInt + 1 := by rw [eS42]; first | exact t8 | exact (sub_one (by omega)).trans (by omega) | exact (i32_inc (by omega)).trans (by omega)
    have t9 : (mv_i S42 3 9).toInt = w39.toInt := by rw [eS42]; rfl
    have kS42 : mv_a S42 4 = mv_a σ 4 := by rw [eS42]; first | rfl | exact kp
    have kp := kS42
    clear eS42
    refine mv_pop (pc := 42) B d_Exprs_part_42 rfl ?_
    refine mv_aload_n (pc := 43) B d_Exprs_part_43 rfl 2 rfl ?_
    refine mv_getR (pc := 44) (ci := 6) (C := R_Exprs) (T := F_Exprs) (N := 11) B 0 rfl rfl (by decide) i_Exprs (B.2.2.2.1 _ k_193) rfl (hR.1 _ 0 _ rfl) d_Exprs_part_44 ?_
    refine mv_iconst (pc := 47) (v := 4) B d_Exprs_part_47 (by decide) ?_
    refine mv_callVi (pc := 48) (n := 1) (ci := 2) (C := R_Tokens) B (mK_ok sk sv) hNs rfl rfl (c_Tokens_takeN l hi _ _ hR.1 (hB0.rf hF hP ht2).2.1 (by omega) (by omega) (by decide)) rfl (ma_goodc kc_Tokens_take) (B.2.2.2.1 _ k_1424) (B.2.2.2.1 _ k_1267) (B.2.2.2.1 _ k_1268) (B.2.2.2.1 _ k_3) ⟨by decide +kernel, by decide +kernel, by decide +kernel⟩ rfl d_Exprs_part_48 rfl (Nat.le_of_ble_eq_true rfl) ⟨by decide, by decide⟩ ⟨by decide, by decide⟩ ⟨by decide, by decide⟩ (mv_noH hno _) (fun v48 σ48 h48 => ?_)
    obtain ⟨a48, w48, e48, r48⟩ := h48
    have q48 := r48.1
    have z48 := fun q => (r48.2.1 q).1
    have y48 := And.intro r48.2.2.2.1 r48.2.2.2.2.1
    subst e48
    refine mv_gen (fun S51 eS51 => ?_)
    have hR : Rw 145 (mv_r S51) := by rw [eS51]; exact hR
    have hF : RF 145 σ S51 := by rw [eS51]; exact hF.tk3 _ _ _
    have hX : XM 145 th e0 bs BL f0 g0 ns S51 (ms) (sm wt ms + 1) (sm wr ms + 1) (s0) := by rw [eS51]; exact hX.tk3 hP _ _ _
    have t7 : (mv_i S51 3 7).toInt = a48.toInt := by rw [eS51]; rfl
    have t8 : (mv_i S51 3 8).toInt = (mv_i σ 3 8).toInt + 1 := by rw [eS51]; first | exact t8 | exact (sub_one (by omega)).trans (by omega) | exact (i32_inc (by omega)).trans (by omega)
    have t9 : (mv_i S51 3 9).toInt = w48.toInt := by rw [eS51]; rfl
    have kS51 : mv_a S51 4 = mv_a σ 4 := by rw [eS51]; first | rfl | exact kp
    have kp := kS51
    clear eS51
    have b2 := y48
    refine mv_istore_n (pc := 51) B d_Exprs_part_51 rfl (by decide) rfl ?_
    refine mv_lpick [0, 1, 2] rfl ?_
    exact j52 _ _ _ hR hF hX t8 (by omega) y15 b2 kp
def y_Exprs_choose : MethodName := ⟨"MachineLoom$Exprs", "choose", "()V"⟩
abbrev b_Exprs_choose : ByteArray := prog_3_method_17_code
theorem kc_Exprs_choose : Cond.code y_Exprs_choose b_Exprs_choose 1 (Option.none : Option Jvm.ClassFile.FieldType) ∈ ma := ma_of (tb_7 _ (List.mem_of_getElem? (i := 56) rfl)) rfl
theorem d_Exprs_choose_0 : decode b_Exprs_choose 0 = .ok (.aload_n 0, 1) := by decide +kernel
theorem d_Exprs_choose_1 : decode b_Exprs_choose 1 = .ok (.bipush 63, 2) := by decide +kernel
theorem d_Exprs_choose_3 : decode b_Exprs_choose 3 = .ok (.aload_n 0, 1) := by decide +kernel
theorem d_Exprs_choose_4 : decode b_Exprs_choose 4 = .ok (.getfield 27, 3) := by decide +kernel
theorem d_Exprs_choose_7 : decode b_Exprs_choose 7 = .ok (.bipush 63, 2) := by decide +kernel
theorem d_Exprs_choose_9 : decode b_Exprs_choose 9 = .ok (.invokevirtual 61, 3) := by decide +kernel
theorem d_Exprs_choose_12 : decode b_Exprs_choose 12 = .ok (.invokevirtual 65, 3) := by decide +kernel
theorem d_Exprs_choose_15 : decode b_Exprs_choose 15 = .ok (.aload_n 0, 1) := by decide +kernel
theorem d_Exprs_choose_16 : decode b_Exprs_choose 16 = .ok (.getfield 21, 3) := by decide +kernel
theorem d_Exprs_choose_19 : decode b_Exprs_choose 19 = .ok (.aload_n 0, 1) := by decide +kernel
theorem d_Exprs_choose_20 : decode b_Exprs_choose 20 = .ok (.getfield 39, 3) := by decide +kernel
theorem d_Exprs_choose_23 : decode b_Exprs_choose 23 = .ok (.iconst 1, 1) := by decide +kernel
theorem d_Exprs_choose_24 : decode b_Exprs_choose 24 = .ok (.isub, 1) := by decide +kernel
theorem d_Exprs_choose_25 : decode b_Exprs_choose 25 = .ok (.aload_n 0, 1) := by decide +kernel
theorem d_Exprs_choose_26 : decode b_Exprs_choose 26 = .ok (.invokevirtual 164, 3) := by decide +kernel
theorem d_Exprs_choose_29 : decode b_Exprs_choose 29 = .ok (.iastore, 1) := by decide +kernel
theorem d_Exprs_choose_30 : decode b_Exprs_choose 30 = .ok (.aload_n 0, 1) := by decide +kernel
theorem d_Exprs_choose_31 : decode b_Exprs_choose 31 = .ok (.getfield 18, 3) := by decide +kernel
theorem d_Exprs_choose_34 : decode b_Exprs_choose 34 = .ok (.aload_n 0, 1) := by decide +kernel
theorem d_Exprs_choose_35 : decode b_Exprs_choose 35 = .ok (.getfield 39, 3) := by decide +kernel
theorem d_Exprs_choose_38 : decode b_Exprs_choose 38 = .ok (.iconst 1, 1) := by decide +kernel
theorem d_Exprs_choose_39 : decode b_Exprs_choose 39 = .ok (.isub, 1) := by decide +kernel
theorem d_Exprs_choose_40 : decode b_Exprs_choose 40 = .ok (.aload_n 0, 1) := by decide +kernel
theorem d_Exprs_choose_41 : decode b_Exprs_choose 41 = .ok (.getfield 89, 3) := by decide +kernel
theorem d_Exprs_choose_44 : decode b_Exprs_choose 44 = .ok (.sipush 312, 3) := by decide +kernel
theorem d_Exprs_choose_47 : decode b_Exprs_choose 47 = .ok (.lconst 0, 1) := by decide +kernel
theorem d_Exprs_choose_48 : decode b_Exprs_choose 48 = .ok (.invokevirtual 93, 3) := by decide +kernel
theorem d_Exprs_choose_51 : decode b_Exprs_choose 51 = .ok (.iastore, 1) := by decide +kernel
theorem d_Exprs_choose_52 : decode b_Exprs_choose 52 = .ok (.return_, 1) := by decide +kernel
set_option maxHeartbeats 4000000 in
set_option maxRecDepth 100000 in
theorem c_Exprs_choose_a (l : Launch) {dA : FieldType → ClassId} {D : va_G} {al : Nat → Nat} {ext : mv_Sh} {sk sv : Nat → Nat} (hi : mv_inj (mg dA D al ext)) (σ : mv_H) {t len n z sz th sl e0 bs ns : Nat} {BL : (Nat → Nat) → Prop} {f0 : Nat → Int32} {g0 : Nat → Int64} {ms : List Mk} {s0 bd a : Nat} (hB0 : SB 32 σ t len n z sz th sl) (ht2 : t = 1 ∨ t = 144) (hX : XM 32 th e0 bs BL f0 g0 ns σ (ms) (sm wt ms + 1) (sm wr ms + 1) (s0)) (hI : TI σ sz bd ms s0 a) (hlen : len ≤ 32768) (hbs : bs ≤ 1) (hk3 : mv_a σ 4 (mv_i σ 3 7).toNatClampNeg = 63) : mv_C l y_Exprs_choose (Cond.code y_Exprs_choose b_Exprs_choose 1 (Option.none : Option Jvm.ClassFile.FieldType) :: ma) ({ frames := 3, cells := 0, slots := 0, locals := 63 }) (mg dA D al ext) (mK sk sv) [.ref (al 22)] σ (mv_Rv (fun σ1 => RF 32 σ σ1 ∧ Mt (mv_a σ1 24) ∧ (0 ≤ (mv_i σ1 3 9).toInt ∨ ∃ ms2 s2 a2, a < a2 ∧ XM 32 th e0 bs BL f0 g0 ns σ1 (ms2) (sm wt ms2 + 0) (sm wr ms2 + 0) (s2) ∧ TI σ1 sz bd ms2 s2 a2))) := by
  refine mv_C.ofV (cc := b_Exprs_choose) (nL := 1) (ret := (Option.none : Option Jvm.ClassFile.FieldType)) (by decide +kernel) rfl hi (Nat.le_of_ble_eq_true rfl) ?_
  intro p e s m below meth c B hNs hr hnm hno
  have hP : PQ 32 := by unfold PQ; omega
  have hR := hB0.1
  have hF : RF 32 σ σ := RF0
  have hT : mv_i σ 3 = mv_i σ 3 := rfl
  have hsz := hB0.2.1.2.2.2.2.2
  have hsz2 := hB0.2.1.2.2.2.1
  have hI5 := hI.2.2.2.2.1
  have ha9 := hI.2.2.2.2.2.1
  have pl := hI.len hX
  have hm8 := hX.1.1
  have t7 := hI.1
  have hw9 := hI.2.1
  have t9 : (mv_i σ 3 9).toInt = (mv_i σ 3 9).toInt := rfl
  have hd8 := hI.2.2.1
  have hd9 := hI.2.2.2.1
  have hWm := hI.2.2.2.2.2.2
  have kp : mv_a σ 4 = mv_a σ 4 := rfl
  have t8 : (mv_i σ 3 8).toInt = (mv_i σ 3 8).toInt := rfl
  refine mv_aload_n (pc := 0) B d_Exprs_choose_0 rfl 0 rfl ?_
  refine mv_bipush (pc := 1) (v := 63) B d_Exprs_choose_1 (by decide) ?_
  refine mv_aload_n (pc := 3) B d_Exprs_choose_3 rfl 0 rfl ?_
  refine mv_getR (pc := 4) (ci := 6) (C := R_Exprs) (T := F_Exprs) (N := 11) B 0 rfl rfl (by decide) i_Exprs (B.2.2.2.1 _ k_193) rfl (hR.1 _ 0 _ rfl) d_Exprs_choose_4 ?_
  refine mv_bipush (pc := 7) (v := 63) B d_Exprs_choose_7 (by decide) ?_
  refine mv_callVi (pc := 9) (n := 1) (ci := 2) (C := R_Tokens) B (mK_ok sk sv) hNs rfl rfl (c_Tokens_openN l hi _ _ hR.1 (hB0.rf hF hP ht2).2.1 (by omega) (by omega) (by decide)) rfl (ma_goodc kc_Tokens_open) (B.2.2.2.1 _ k_1415) (B.2.2.2.1 _ k_1350) (B.2.2.2.1 _ k_1351) (B.2.2.2.1 _ k_3) ⟨by decide +kernel, by decide +kernel, by decide +kernel⟩ rfl d_Exprs_choose_9 rfl (Nat.le_of_ble_eq_true rfl) ⟨by decide, by decide⟩ ⟨by decide, by decide⟩ ⟨by decide, by decide⟩ (mv_noH hno _) (fun v9 σ9 h9 => ?_)
  obtain ⟨a9, w9, e9, r9⟩ := h9
  have q9 := r9.1
  have z9 := fun q => (r9.2.1 q).1
  have y9 := And.intro r9.2.2.2.1 r9.2.2.2.2.1
  subst e9
  refine mv_gen (fun S12 eS12 => ?_)
  have hR : Rw 32 (mv_r S12) := by rw [eS12]; exact hR
  have hF : RF 32 σ S12 := by rw [eS12]; exact hF.tk3 _ _ _
  have hX : XM 32 th e0 bs BL f0 g0 ns S12 (ms) (sm wt ms + 1) (sm wr ms + 1) (s0) := by rw [eS12]; exact hX.tk3 hP _ _ _
  have t7 : (mv_i S12 3 7).toInt = a9.toInt := by rw [eS12]; rfl
  have t8 : (mv_i S12 3 8).toInt = (mv_i σ 3 8).toInt + 1 := by rw [eS12]; first | exact t8 | exact (sub_one (by omega)).trans (by omega) | exact (i32_inc (by omega)).trans (by omega)
  have t9 : (mv_i S12 3 9).toInt = w9.toInt := by rw [eS12]; rfl
  have kS12 : mv_a S12 4 = mv_a σ 4 := by rw [eS12]; first | rfl | exact kp
  have kp := kS12
  have m5 : mv_i S12 22 8 + 1 - 1 = mv_i S12 22 8 := Int32.add_sub_cancel _ _
  have m6 := hX.1.1
  have m7 := hX.n
  have m8 := hX.2.1.1
  clear eS12
  refine mv_callVv (pc := 12) (n := 2) (ci := 6) (C := R_Exprs) B (mK_ok sk sv) hNs rfl rfl (c_Exprs_mark l hi _ _ _ hR.1 (by have := hX.1.1; omega) (by have := hX.1.1; omega)) rfl (ma_goodc kc_Exprs_mark) (B.2.2.2.1 _ k_1416) (B.2.2.2.1 _ k_1418) (B.2.2.2.1 _ ks_48) (B.2.2.2.1 _ k_7) ⟨by decide +kernel, by decide +kernel, by decide +kernel⟩ rfl d_Exprs_choose_12 rfl (Nat.le_of_ble_eq_true rfl) ⟨by decide, by decide⟩ ⟨by decide, by decide⟩ ⟨by decide, by decide⟩ (mv_noH hno _) (fun σ12 h12 => ?_)
  subst h12
  refine mv_aload_n (pc := 15) B d_Exprs_choose_15 rfl 0 rfl ?_
  refine mv_getR (pc := 16) (ci := 6) (C := R_Exprs) (T := F_Exprs) (N := 11) B 7 rfl rfl (by decide) i_Exprs (B.2.2.2.1 _ k_201) rfl (hR.1 _ 7 _ rfl) d_Exprs_choose_16 ?_
  refine mv_aload_n (pc := 19) B d_Exprs_choose_19 rfl 0 rfl ?_
  refine mv_getI (pc := 20) (ci := 6) (C := R_Exprs) (T := F_Exprs) (N := 11) B 8 rfl rfl (by decide) i_Exprs (B.2.2.2.1 _ k_202) rfl d_Exprs_choose_20 ?_
  refine mv_iconst (pc := 23) (v := 1) B d_Exprs_choose_23 (by decide) ?_
  refine mv_isub (pc := 24) B d_Exprs_choose_24 ?_
  refine mv_aload_n (pc := 25) B d_Exprs_choose_25 rfl 0 rfl ?_
  refine mv_callVi (pc := 26) (n := 0) (ci := 6) (C := R_Exprs) B (mK_ok sk sv) hNs rfl rfl (c_Exprs_release l hi _ hR.1 (show 1 ≤ (mv_i S12 22 10).toInt by have := hX.1.2.2.1; omega) (show (mv_i S12 22 10).toInt ≤ 1024 by have := hX.1.2.2.1; omega)) rfl (ma_goodc kc_Exprs_release) (B.2.2.2.1 _ k_1469) (B.2.2.2.1 _ k_1470) (B.2.2.2.1 _ k_1471) (B.2.2.2.1 _ k_7) ⟨by decide +kernel, by decide +kernel, by decide +kernel⟩ rfl d_Exprs_choose_26 rfl (Nat.le_of_ble_eq_true rfl) ⟨by decide, by decide⟩ ⟨by decide, by decide⟩ ⟨by decide, by decide⟩ (mv_noH hno _) (fun v26 σ26 h26 => ?_)
  subst h26
  refine mv_iast (pc := 29) B rfl (i32_in (show 0 ≤ (mv_i S12 22 8 + 1 - 1).toInt by rw [m5]; omega) (show (mv_i S12 22 8 + 1 - 1).toInt < 1024 by rw [m5]; omega)) d_Exprs_choose_29 ?_
  refine mv_aload_n (pc := 30) B d_Exprs_choose_30 rfl 0 rfl ?_
  refine mv_getR (pc := 31) (ci := 6) (C := R_Exprs) (T := F_Exprs) (N := 11) B 6 rfl rfl (by decide) i_Exprs (B.2.2.2.1 _ k_200) rfl (hR.1 _ 6 _ rfl) d_Exprs_choose_31 ?_
  refine mv_aload_n (pc := 34) B d_Exprs_choose_34 rfl 0 rfl ?_
  refine mv_getI (pc := 35) (ci := 6) (C := R_Exprs) (T := F_Exprs) (N := 11) B 8 rfl rfl (by decide) i_Exprs (B.2.2.2.1 _ k_202) rfl d_Exprs_choose_35 ?_
  refine mv_iconst (pc := 38) (v := 1) B d_Exprs_choose_38 (by decide) ?_
  refine mv_isub (pc := 39) B d_Exprs_choose_39 ?_
  refine mv_aload_n (pc := 40) B d_Exprs_choose_40 rfl 0 rfl ?_
  refine mv_getR (pc := 41) (ci := 6) (C := R_Exprs) (T := F_Exprs) (N := 11) B 3 rfl rfl (by decide) i_Exprs (B.2.2.2.1 _ k_197) rfl hR.2.2.2 d_Exprs_choose_41 ?_
  refine mv_sipush (pc := 44) (v := 312) B d_Exprs_choose_44 (by decide) ?_
  refine mv_lconst (pc := 47) (v := 0) B d_Exprs_choose_47 (by decide) ?_
  refine mv_callVi (pc := 48) (n := 2) (ci := 7) (C := R_Program) B (mK_ok sk sv) hNs rfl rfl (c_Program_emit_a l hi _ _ _ hR.2.1 (show 0 ≤ (mv_i S12 32 17).toInt by have := hX.2.1.1; omega) (show (mv_i S12 32 17).toInt < 32768 by have := hX.2.1.1; omega)) rfl (ma_goodc kc_Program_emit) (B.2.2.2.1 _ k_1425) (B.2.2.2.1 _ k_1385) (B.2.2.2.1 _ k_1386) (B.2.2.2.1 _ k_8) ⟨by decide +kernel, by decide +kernel, by decide +kernel⟩ rfl d_Exprs_choose_48 rfl (Nat.le_of_ble_eq_true rfl) ⟨by decide, by decide⟩ ⟨by decide, by decide⟩ ⟨by decide, by decide⟩ (mv_noH hno _) (fun v48 σ48 h48 => ?_)
  obtain ⟨e48, z48⟩ := h48
  subst e48
  have z48 : v48 = mv_i S12 32 17 := z48
  refine mv_iast (pc := 51) B rfl (i32_in (show 0 ≤ (mv_i S12 22 8 + 1 - 1).toInt by rw [m5]; omega) (show (mv_i S12 22 8 + 1 - 1).toInt < 1024 by rw [m5]; omega)) d_Exprs_choose_51 ?_
  refine mv_gen (fun S52 eS52 => ?_)
  have hR : Rw 32 (mv_r S52) := by rw [eS52]; exact hR
  have hF : RF 32 σ S52 := by rw [eS52]; exact hF.mark _ _ |>.rel |>.row ⟨by omega, by omega⟩ _ _ |>.emit _ _ |>.row ⟨by omega, by omega⟩ _ _
  have hX : XM 32 th e0 bs BL f0 g0 ns S52 (((63, v48) : Mk) :: ms) (sm wt ms) (sm wr ms) (s0 + 1) := by rw [eS52]; exact hX.choose hP (by omega) (by omega) (show (mv_i S12 22 8 + 1 - 1).toNatClampNeg = _ by rw [m5]; exact m7) ⟨y9.1, by omega⟩ (by rw [z48]; exact m8) (by omega)
  have t7 := Eq.trans (congrArg Int32.toInt (show mv_i S52 3 7 = mv_i _ 3 7 by rw [eS52]; rfl)) t7
  have t8 := Eq.trans (congrArg Int32.toInt (show mv_i S52 3 8 = mv_i _ 3 8 by rw [eS52]; rfl)) t8
  have t9 := Eq.trans (congrArg Int32.toInt (show mv_i S52 3 9 = mv_i _ 3 9 by rw [eS52]; rfl)) t9
  have kp := Eq.trans (show mv_a S52 4 = mv_a _ 4 by rw [eS52]; rfl) kp
  have y1 : sm wt (((63, v48) : Mk) :: ms) = wt (63, v48) + sm wt ms := rfl
  have y2 : sm wr (((63, v48) : Mk) :: ms) = wr (63, v48) + sm wr ms := rfl
  have y3 : sm wd (((63, v48) : Mk) :: ms) = wd (63, v48) + sm wd ms := rfl
  have y4 : sm wc (((63, v48) : Mk) :: ms) = wc (63, v48) + sm wc ms := rfl
  have x1 : wt (63, v48) = 0 := rfl
  have x2 : wr (63, v48) = 0 := rfl
  have x3 : wd (63, v48) = 1 := rfl
  have x4 : wc (63, v48) = 0 := rfl
  have hend : 0 ≤ (mv_i S52 3 9).toInt ∨ ∃ ms2 s2 a2, a < a2 ∧ XM 32 th e0 bs BL f0 g0 ns S52 (ms2) (sm wt ms2 + 0) (sm wr ms2 + 0) (s2) ∧ TI S52 sz bd ms2 s2 a2 := by
    by_cases hw : (mv_i S52 3 9).toInt < 0
    · refine Or.inr ⟨((63, v48) : Mk) :: ms, s0 + 1, a + 1, by omega, ?_, by omega, hw, by omega, ?_, by omega, by omega, (hWm.up (by omega)).cons (fun q => absurd (show (63 : Int32) = 123 from q) (by decide))⟩
      · rw [y1, y2, x1, x2, Nat.zero_add, Nat.zero_add]
        exact hX
      · have := (r9.2.1 (by omega)).2.2.1
        have : ¬ (mv_i σ 3 8).toInt = 60 := fun q => this (Int32.toInt_inj.mp q)
        omega
    · exact Or.inl (by omega)
  clear eS52
  exact mv_vret (pc := 52) B hr d_Exprs_choose_52 (Nat.le_refl _) (Nat.le_refl _) ⟨rfl, hF, hX.1.2.2.2.1, hend⟩
set_option maxHeartbeats 4000000 in
set_option maxRecDepth 100000 in
theorem c_Exprs_choose_b (l : Launch) {dA : FieldType → ClassId} {D : va_G} {al : Nat → Nat} {ext : mv_Sh} {sk sv : Nat → Nat} (hi : mv_inj (mg dA D al ext)) (σ : mv_H) {t len n z sz th sl e0 bs ns : Nat} {BL : (Nat → Nat) → Prop} {f0 : Nat → Int32} {g0 : Nat → Int64} {ms : List Mk} {s0 bd a : Nat} (hB0 : SB 48 σ t len n z sz th sl) (ht2 : t = 1 ∨ t = 144) (hX : XM 48 th e0 bs BL f0 g0 ns σ (ms) (sm wt ms + 1) (sm wr ms + 1) (s0)) (hI : TI σ sz bd ms s0 a) (hlen : len ≤ 32768) (hbs : bs ≤ 1) (hk3 : mv_a σ 4 (mv_i σ 3 7).toNatClampNeg = 63) : mv_C l y_Exprs_choose (Cond.code y_Exprs_choose b_Exprs_choose 1 (Option.none : Option Jvm.ClassFile.FieldType) :: ma) ({ frames := 3, cells := 0, slots := 0, locals := 63 }) (mg dA D al ext) (mK sk sv) [.ref (al 22)] σ (mv_Rv (fun σ1 => RF 48 σ σ1 ∧ Mt (mv_a σ1 24) ∧ (0 ≤ (mv_i σ1 3 9).toInt ∨ ∃ ms2 s2 a2, a < a2 ∧ XM 48 th e0 bs BL f0 g0 ns σ1 (ms2) (sm wt ms2 + 0) (sm wr ms2 + 0) (s2) ∧ TI σ1 sz bd ms2 s2 a2))) := by
  refine mv_C.ofV (cc := b_Exprs_choose) (nL := 1) (ret := (Option.none : Option Jvm.ClassFile.FieldType)) (by decide +kernel) rfl hi (Nat.le_of_ble_eq_true rfl) ?_
  intro p e s m below meth c B hNs hr hnm hno
  have hP : PQ 48 := by unfold PQ; omega
  have hR := hB0.1
  have hF : RF 48 σ σ := RF0
  have hT : mv_i σ 3 = mv_i σ 3 := rfl
  have hsz := hB0.2.1.2.2.2.2.2
  have hsz2 := hB0.2.1.2.2.2.1
  have hI5 := hI.2.2.2.2.1
  have ha9 := hI.2.2.2.2.2.1
  have pl := hI.len hX
  have hm8 := hX.1.1
  have t7 := hI.1
  have hw9 := hI.2.1
  have t9 : (mv_i σ 3 9).toInt = (mv_i σ 3 9).toInt := rfl
  have hd8 := hI.2.2.1
  have hd9 := hI.2.2.2.1
  have hWm := hI.2.2.2.2.2.2
  have kp : mv_a σ 4 = mv_a σ 4 := rfl
  have t8 : (mv_i σ 3 8).toInt = (mv_i σ 3 8).toInt := rfl
  refine mv_aload_n (pc := 0) B d_Exprs_choose_0 rfl 0 rfl ?_
  refine mv_bipush (pc := 1) (v := 63) B d_Exprs_choose_1 (by decide) ?_
  refine mv_aload_n (pc := 3) B d_Exprs_choose_3 rfl 0 rfl ?_
  refine mv_getR (pc := 4) (ci := 6) (C := R_Exprs) (T := F_Exprs) (N := 11) B 0 rfl rfl (by decide) i_Exprs (B.2.2.2.1 _ k_193) rfl (hR.1 _ 0 _ rfl) d_Exprs_choose_4 ?_
  refine mv_bipush (pc := 7) (v := 63) B d_Exprs_choose_7 (by decide) ?_
  refine mv_callVi (pc := 9) (n := 1) (ci := 2) (C := R_Tokens) B (mK_ok sk sv) hNs rfl rfl (c_Tokens_openN l hi _ _ hR.1 (hB0.rf hF hP ht2).2.1 (by omega) (by omega) (by decide)) rfl (ma_goodc kc_Tokens_open) (B.2.2.2.1 _ k_1415) (B.2.2.2.1 _ k_1350) (B.2.2.2.1 _ k_1351) (B.2.2.2.1 _ k_3) ⟨by decide +kernel, by decide +kernel, by decide +kernel⟩ rfl d_Exprs_choose_9 rfl (Nat.le_of_ble_eq_true rfl) ⟨by decide, by decide⟩ ⟨by decide, by decide⟩ ⟨by decide, by decide⟩ (mv_noH hno _) (fun v9 σ9 h9 => ?_)
  obtain ⟨a9, w9, e9, r9⟩ := h9
  have q9 := r9.1
  have z9 := fun q => (r9.2.1 q).1
  have y9 := And.intro r9.2.2.2.1 r9.2.2.2.2.1
  subst e9
  refine mv_gen (fun S12 eS12 => ?_)
  have hR : Rw 48 (mv_r S12) := by rw [eS12]; exact hR
  have hF : RF 48 σ S12 := by rw [eS12]; exact hF.tk3 _ _ _
  have hX : XM 48 th e0 bs BL f0 g0 ns S12 (ms) (sm wt ms + 1) (sm wr ms + 1) (s0) := by rw [eS12]; exact hX.tk3 hP _ _ _
  have t7 : (mv_i S12 3 7).toInt = a9.toInt := by rw [eS12]; rfl
  have t8 : (mv_i S12 3 8).toInt = (mv_i σ 3 8).toInt + 1 := by rw [eS12]; first | exact t8 | exact (sub_one (by omega)).trans (by omega) | exact (i32_inc (by omega)).trans (by omega)
  have t9 : (mv_i S12 3 9).toInt = w9.toInt := by rw [eS12]; rfl
  have kS12 : mv_a S12 4 = mv_a σ 4 := by rw [eS12]; first | rfl | exact kp
  have kp := kS12
  have m5 : mv_i S12 22 8 + 1 - 1 = mv_i S12 22 8 := Int32.add_sub_cancel _ _
  have m6 := hX.1.1
  have m7 := hX.n
  have m8 := hX.2.1.1
  clear eS12
  refine mv_callVv (pc := 12) (n := 2) (ci := 6) (C := R_Exprs) B (mK_ok sk sv) hNs rfl rfl (c_Exprs_mark l hi _ _ _ hR.1 (by have := hX.1.1; omega) (by have := hX.1.1; omega)) rfl (ma_goodc kc_Exprs_mark) (B.2.2.2.1 _ k_1416) (B.2.2.2.1 _ k_1418) (B.2.2.2.1 _ ks_48) (B.2.2.2.1 _ k_7) ⟨by decide +kernel, by decide +kernel, by decide +kernel⟩ rfl d_Exprs_choose_12 rfl (Nat.le_of_ble_eq_true rfl) ⟨by decide, by decide⟩ ⟨by decide, by decide⟩ ⟨by decide, by decide⟩ (mv_noH hno _) (fun σ12 h12 => ?_)
  subst h12
  refine mv_aload_n (pc := 15) B d_Exprs_choose_15 rfl 0 rfl ?_
  refine mv_getR (pc := 16) (ci := 6) (C := R_Exprs) (T := F_Exprs) (N := 11) B 7 rfl rfl (by decide) i_Exprs (B.2.2.2.1 _ k_201) rfl (hR.1 _ 7 _ rfl) d_Exprs_choose_16 ?_
  refine mv_aload_n (pc := 19) B d_Exprs_choose_19 rfl 0 rfl ?_
  refine mv_getI (pc := 20) (ci := 6) (C := R_Exprs) (T := F_Exprs) (N := 11) B 8 rfl rfl (by decide) i_Exprs (B.2.2.2.1 _ k_202) rfl d_Exprs_choose_20 ?_
  refine mv_iconst (pc := 23) (v := 1) B d_Exprs_choose_23 (by decide) ?_
  refine mv_isub (pc := 24) B d_Exprs_choose_24 ?_
  refine mv_aload_n (pc := 25) B d_Exprs_choose_25 rfl 0 rfl ?_
  refine mv_callVi (pc := 26) (n := 0) (ci := 6) (C := R_Exprs) B (mK_ok sk sv) hNs rfl rfl (c_Exprs_release l hi _ hR.1 (show 1 ≤ (mv_i S12 22 10).toInt by have := hX.1.2.2.1; omega) (show (mv_i S12 22 10).toInt ≤ 1024 by have := hX.1.2.2.1; omega)) rfl (ma_goodc kc_Exprs_release) (B.2.2.2.1 _ k_1469) (B.2.2.2.1 _ k_1470) (B.2.2.2.1 _ k_1471) (B.2.2.2.1 _ k_7) ⟨by decide +kernel, by decide +kernel, by decide +kernel⟩ rfl d_Exprs_choose_26 rfl (Nat.le_of_ble_eq_true rfl) ⟨by decide, by decide⟩ ⟨by decide, by decide⟩ ⟨by decide, by decide⟩ (mv_noH hno _) (fun v26 σ26 h26 => ?_)
  subst h26
  refine mv_iast (pc := 29) B rfl (i32_in (show 0 ≤ (mv_i S12 22 8 + 1 - 1).toInt by rw [m5]; omega) (show (mv_i S12 22 8 + 1 - 1).toInt < 1024 by rw [m5]; omega)) d_Exprs_choose_29 ?_
  refine mv_aload_n (pc := 30) B d_Exprs_choose_30 rfl 0 rfl ?_
  refine mv_getR (pc := 31) (ci := 6) (C := R_Exprs) (T := F_Exprs) (N := 11) B 6 rfl rfl (by decide) i_Exprs (B.2.2.2.1 _ k_200) rfl (hR.1 _ 6 _ rfl) d_Exprs_choose_31 ?_
  refine mv_aload_n (pc := 34) B d_Exprs_choose_34 rfl 0 rfl ?_
  refine mv_getI (pc := 35) (ci := 6) (C := R_Exprs) (T := F_Exprs) (N := 11) B 8 rfl rfl (by decide) i_Exprs (B.2.2.2.1 _ k_202) rfl d_Exprs_choose_35 ?_
  refine mv_iconst (pc := 38) (v := 1) B d_Exprs_choose_38 (by decide) ?_
  refine mv_isub (pc := 39) B d_Exprs_choose_39 ?_
  refine mv_aload_n (pc := 40) B d_Exprs_choose_40 rfl 0 rfl ?_
  refine mv_getR (pc := 41) (ci := 6) (C := R_Exprs) (T := F_Exprs) (N := 11) B 3 rfl rfl (by decide) i_Exprs (B.2.2.2.1 _ k_197) rfl hR.2.2.2 d_Exprs_choose_41 ?_
  refine mv_sipush (pc := 44) (v := 312) B d_Exprs_choose_44 (by decide) ?_
  refine mv_lconst (pc := 47) (v := 0) B d_Exprs_choose_47 (by decide) ?_
  refine mv_callVi (pc := 48) (n := 2) (ci := 7) (C := R_Program) B (mK_ok sk sv) hNs rfl rfl (c_Program_emit_b l hi _ _ _ hR.2.1 (show 0 ≤ (mv_i S12 48 17).toInt by have := hX.2.1.1; omega) (show (mv_i S12 48 17).toInt < 32768 by have := hX.2.1.1; omega)) rfl (ma_goodc kc_Program_emit) (B.2.2.2.1 _ k_1425) (B.2.2.2.1 _ k_1385) (B.2.2.2.1 _ k_1386) (B.2.2.2.1 _ k_8) ⟨by decide +kernel, by decide +kernel, by decide +kernel⟩ rfl d_Exprs_choose_48 rfl (Nat.le_of_ble_eq_true rfl) ⟨by decide, by decide⟩ ⟨by decide, by decide⟩ ⟨by decide, by decide⟩ (mv_noH hno _) (fun v48 σ48 h48 => ?_)
  obtain ⟨e48, z48⟩ := h48
  subst e48
  have z48 : v48 = mv_i S12 48 17 := z48
  refine mv_iast (pc := 51) B rfl (i32_in (show 0 ≤ (mv_i S12 22 8 + 1 - 1).toInt by rw [m5]; omega) (show (mv_i S12 22 8 + 1 - 1).toInt < 1024 by rw [m5]; omega)) d_Exprs_choose_51 ?_
  refine mv_gen (fun S52 eS52 => ?_)
  have hR : Rw 48 (mv_r S52) := by rw [eS52]; exact hR
  have hF : RF 48 σ S52 := by rw [eS52]; exact hF.mark _ _ |>.rel |>.row ⟨by omega, by omega⟩ _ _ |>.emit _ _ |>.row ⟨by omega, by omega⟩ _ _
  have hX : XM 48 th e0 bs BL f0 g0 ns S52 (((63, v48) : Mk) :: ms) (sm wt ms) (sm wr ms) (s0 + 1) := by rw [eS52]; exact hX.choose hP (by omega) (by omega) (show (mv_i S12 22 8 + 1 - 1).toNatClampNeg = _ by rw [m5]; exact m7) ⟨y9.1, by omega⟩ (by rw [z48]; exact m8) (by omega)
  have t7 := Eq.trans (congrArg Int32.toInt (show mv_i S52 3 7 = mv_i _ 3 7 by rw [eS52]; rfl)) t7
  have t8 := Eq.trans (congrArg Int32.toInt (show mv_i S52 3 8 = mv_i _ 3 8 by rw [eS52]; rfl)) t8
  have t9 := Eq.trans (congrArg Int32.toInt (show mv_i S52 3 9 = mv_i _ 3 9 by rw [eS52]; rfl)) t9
  have kp := Eq.trans (show mv_a S52 4 = mv_a _ 4 by rw [eS52]; rfl) kp
  have y1 : sm wt (((63, v48) : Mk) :: ms) = wt (63, v48) + sm wt ms := rfl
  have y2 : sm wr (((63, v48) : Mk) :: ms) = wr (63, v48) + sm wr ms := rfl
  have y3 : sm wd (((63, v48) : Mk) :: ms) = wd (63, v48) + sm wd ms := rfl
  have y4 : sm wc (((63, v48) : Mk) :: ms) = wc (63, v48) + sm wc ms := rfl
  have x1 : wt (63, v48) = 0 := rfl
  have x2 : wr (63, v48) = 0 := rfl
  have x3 : wd (63, v48) = 1 := rfl
  have x4 : wc (63, v48) = 0 := rfl
  have hend : 0 ≤ (mv_i S52 3 9).toInt ∨ ∃ ms2 s2 a2, a < a2 ∧ XM 48 th e0 bs BL f0 g0 ns S52 (ms2) (sm wt ms2 + 0) (sm wr ms2 + 0) (s2) ∧ TI S52 sz bd ms2 s2 a2 := by
    by_cases hw : (mv_i S52 3 9).toInt < 0
    · refine Or.inr ⟨((63, v48) : Mk) :: ms, s0 + 1, a + 1, by omega, ?_, by omega, hw, by omega, ?_, by omega, by omega, (hWm.up (by omega)).cons (fun q => absurd (show (63 : Int32) = 123 from q) (by decide))⟩
      · rw [y1, y2, x1, x2, Nat.zero_add, Nat.zero_add]
        exact hX
      · have := (r9.2.1 (by omega)).2.2.1
        have : ¬ (mv_i σ 3 8).toInt = 60 := fun q => this (Int32.toInt_inj.mp q)
        omega
    · exact Or.inl (by omega)
  clear eS52
  exact mv_vret (pc := 52) B hr d_Exprs_choose_52 (Nat.le_refl _) (Nat.le_refl _) ⟨rfl, hF, hX.1.2.2.2.1, hend⟩
set_option maxHeartbeats 4000000 in
set_option maxRecDepth 100000 in
theorem c_Exprs_choose_c (l : Launch) {dA : FieldType → ClassId} {D : va_G} {al : Nat → Nat} {sk sv : Nat → Nat} (hi : mv_inj (mg dA D al me)) (σ : mv_H) {t len n z sz th sl e0 bs ns : Nat} {BL : (Nat → Nat) → Prop} {f0 : Nat → Int32} {g0 : Nat → Int64} {ms : List Mk} {s0 bd a : Nat} (hB0 : SB 145 σ t len n z sz th sl) (ht2 : t = 1 ∨ t = 144) (hX : XM 145 th e0 bs BL f0 g0 ns σ (ms) (sm wt ms + 1) (sm wr ms + 1) (s0)) (hI : TI σ sz bd ms s0 a) (hlen : len ≤ 8192) (hbs : bs ≤ 1) (hk3 : mv_a σ 4 (mv_i σ 3 7).toNatClampNeg = 63) : mv_C l y_Exprs_choose (Cond.code y_Exprs_choose b_Exprs_choose 1 (Option.none : Option Jvm.ClassFile.FieldType) :: ma) ({ frames := 3, cells := 0, slots := 0, locals := 63 }) (mg dA D al me) (mK sk sv) [.ref (al 22)] σ (mv_Rv (fun σ1 => RF 145 σ σ1 ∧ Mt (mv_a σ1 24) ∧ (0 ≤ (mv_i σ1 3 9).toInt ∨ ∃ ms2 s2 a2, a < a2 ∧ XM 145 th e0 bs BL f0 g0 ns σ1 (ms2) (sm wt ms2 + 0) (sm wr ms2 + 0) (s2) ∧ TI σ1 sz bd ms2 s2 a2))) := by
  refine mv_C.ofV (cc := b_Exprs_choose) (nL := 1) (ret := (Option.none : Option Jvm.ClassFile.FieldType)) (by decide +kernel) rfl hi (Nat.le_of_ble_eq_true rfl) ?_
  intro p e s m below meth c B hNs hr hnm hno
  have hP : PQ 145 := by unfold PQ; omega
  have hR := hB0.1
  have hF : RF 145 σ σ := RF0
  have hT : mv_i σ 3 = mv_i σ 3 := rfl
  have hsz := hB0.2.1.2.2.2.2.2
  have hsz2 := hB0.2.1.2.2.2.1
  have hI5 := hI.2.2.2.2.1
  have ha9 := hI.2.2.2.2.2.1
  have pl := hI.len hX
  have hm8 := hX.1.1
  have t7 := hI.1
  have hw9 := hI.2.1
  have t9 : (mv_i σ 3 9).toInt = (mv_i σ 3 9).toInt := rfl
  have hd8 := hI.2.2.1
  have hd9 := hI.2.2.2.1
  have hWm := hI.2.2.2.2.2.2
  have kp : mv_a σ 4 = mv_a σ 4 := rfl
  have t8 : (mv_i σ 3 8).toInt = (mv_i σ 3 8).toInt := rfl
  refine mv_aload_n (pc := 0) B d_Exprs_choose_0 rfl 0 rfl ?_
  refine mv_bipush (pc := 1) (v := 63) B d_Exprs_choose_1 (by decide) ?_
  refine mv_aload_n (pc := 3) B d_Exprs_choose_3 rfl 0 rfl ?_
  refine mv_getR (pc := 4) (ci := 6) (C := R_Exprs) (T := F_Exprs) (N := 11) B 0 rfl rfl (by decide) i_Exprs (B.2.2.2.1 _ k_193) rfl (hR.1 _ 0 _ rfl) d_Exprs_choose_4 ?_
  refine mv_bipush (pc := 7) (v := 63) B d_Exprs_choose_7 (by decide) ?_
  refine mv_callVi (pc := 9) (n := 1) (ci := 2) (C := R_Tokens) B (mK_ok sk sv) hNs rfl rfl (c_Tokens_openN l hi _ _ hR.1 (hB0.rf hF hP ht2).2.1 (by omega) (by omega) (by decide)) rfl (ma_goodc kc_Tokens_open) (B.2.2.2.1 _ k_1415) (B.2.2.2.1 _ k_1350) (B.2.2.2.1 _ k_1351) (B.2.2.2.1 _ k_3) ⟨by decide +kernel, by decide +kernel, by decide +kernel⟩ rfl d_Exprs_choose_9 rfl (Nat.le_of_ble_eq_true rfl) ⟨by decide, by decide⟩ ⟨by decide, by decide⟩ ⟨by decide, by decide⟩ (mv_noH hno _) (fun v9 σ9 h9 => ?_)
  obtain ⟨a9, w9, e9, r9⟩ := h9
  have q9 := r9.1
  have z9 := fun q => (r9.2.1 q).1
  have y9 := And.intro r9.2.2.2.1 r9.2.2.2.2.1
  subst e9
  refine mv_gen (fun S12 eS12 => ?_)
  have hR : Rw 145 (mv_r S12) := by rw [eS12]; exact hR
  have hF : RF 145 σ S12 := by rw [eS12]; exact hF.tk3 _ _ _
  have hX : XM 145 th e0 bs BL f0 g0 ns S12 (ms) (sm wt ms + 1) (sm wr ms + 1) (s0) := by rw [eS12]; exact hX.tk3 hP _ _ _
  have t7 : (mv_i S12 3 7).toInt = a9.toInt := by rw [eS12]; rfl
  have t8 : (mv_i S12 3 8).toInt = (mv_i σ 3 8).toInt + 1 := by rw [eS12]; first | exact t8 | exact (sub_one (by omega)).trans (by omega) | exact (i32_inc (by omega)).trans (by omega)
  have t9 : (mv_i S12 3 9).toInt = w9.toInt := by rw [eS12]; rfl
  have kS12 : mv_a S12 4 = mv_a σ 4 := by rw [eS12]; first | rfl | exact kp
  have kp := kS12
  have m5 : mv_i S12 22 8 + 1 - 1 = mv_i S12 22 8 := Int32.add_sub_cancel _ _
  have m6 := hX.1.1
  have m7 := hX.n
  have m8 := hX.2.1.1
  clear eS12
  refine mv_callVv (pc := 12) (n := 2) (ci := 6) (C := R_Exprs) B (mK_ok sk sv) hNs rfl rfl (c_Exprs_mark l hi _ _ _ hR.1 (by have := hX.1.1; omega) (by have := hX.1.1; omega)) rfl (ma_goodc kc_Exprs_mark) (B.2.2.2.1 _ k_1416) (B.2.2.2.1 _ k_1418) (B.2.2.2.1 _ ks_48) (B.2.2.2.1 _ k_7) ⟨by decide +kernel, by decide +kernel, by decide +kernel⟩ rfl d_Exprs_choose_12 rfl (Nat.le_of_ble_eq_true rfl) ⟨by decide, by decide⟩ ⟨by decide, by decide⟩ ⟨by decide, by decide⟩ (mv_noH hno _) (fun σ12 h12 => ?_)
  subst h12
  refine mv_aload_n (pc := 15) B d_Exprs_choose_15 rfl 0 rfl ?_
  refine mv_getR (pc := 16) (ci := 6) (C := R_Exprs) (T := F_Exprs) (N := 11) B 7 rfl rfl (by decide) i_Exprs (B.2.2.2.1 _ k_201) rfl (hR.1 _ 7 _ rfl) d_Exprs_choose_16 ?_
  refine mv_aload_n (pc := 19) B d_Exprs_choose_19 rfl 0 rfl ?_
  refine mv_getI (pc := 20) (ci := 6) (C := R_Exprs) (T := F_Exprs) (N := 11) B 8 rfl rfl (by decide) i_Exprs (B.2.2.2.1 _ k_202) rfl d_Exprs_choose_20 ?_
  refine mv_iconst (pc := 23) (v := 1) B d_Exprs_choose_23 (by decide) ?_
  refine mv_isub (pc := 24) B d_Exprs_choose_24 ?_
  refine mv_aload_n (pc := 25) B d_Exprs_choose_25 rfl 0 rfl ?_
  refine mv_callVi (pc := 26) (n := 0) (ci := 6) (C := R_Exprs) B (mK_ok sk sv) hNs rfl rfl (c_Exprs_release l hi _ hR.1 (show 1 ≤ (mv_i S12 22 10).toInt by have := hX.1.2.2.1; omega) (show (mv_i S12 22 10).toInt ≤ 1024 by have := hX.1.2.2.1; omega)) rfl (ma_goodc kc_Exprs_release) (B.2.2.2.1 _ k_1469) (B.2.2.2.1 _ k_1470) (B.2.2.2.1 _ k_1471) (B.2.2.2.1 _ k_7) ⟨by decide +kernel, by decide +kernel, by decide +kernel⟩ rfl d_Exprs_choose_26 rfl (Nat.le_of_ble_eq_true rfl) ⟨by decide, by decide⟩ ⟨by decide, by decide⟩ ⟨by decide, by decide⟩ (mv_noH hno _) (fun v26 σ26 h26 => ?_)
  subst h26
  refine mv_iast (pc := 29) B rfl (i32_in (show 0 ≤ (mv_i S12 22 8 + 1 - 1).toInt by rw [m5]; omega) (show (mv_i S12 22 8 + 1 - 1).toInt < 1024 by rw [m5]; omega)) d_Exprs_choose_29 ?_
  refine mv_aload_n (pc := 30) B d_Exprs_choose_30 rfl 0 rfl ?_
  refine mv_getR (pc := 31) (ci := 6) (C := R_Exprs) (T := F_Exprs) (N := 11) B 6 rfl rfl (by decide) i_Exprs (B.2.2.2.1 _ k_200) rfl (hR.1 _ 6 _ rfl) d_Exprs_choose_31 ?_
  refine mv_aload_n (pc := 34) B d_Exprs_choose_34 rfl 0 rfl ?_
  refine mv_getI (pc := 35) (ci := 6) (C := R_Exprs) (T := F_Exprs) (N := 11) B 8 rfl rfl (by decide) i_Exprs (B.2.2.2.1 _ k_202) rfl d_Exprs_choose_35 ?_
  refine mv_iconst (pc := 38) (v := 1) B d_Exprs_choose_38 (by decide) ?_
  refine mv_isub (pc := 39) B d_Exprs_choose_39 ?_
  refine mv_aload_n (pc := 40) B d_Exprs_choose_40 rfl 0 rfl ?_
  refine mv_getR (pc := 41) (ci := 6) (C := R_Exprs) (T := F_Exprs) (N := 11) B 3 rfl rfl (by decide) i_Exprs (B.2.2.2.1 _ k_197) rfl hR.2.2.2 d_Exprs_choose_41 ?_
  refine mv_sipush (pc := 44) (v := 312) B d_Exprs_choose_44 (by decide) ?_
  refine mv_lconst (pc := 47) (v := 0) B d_Exprs_choose_47 (by decide) ?_
  refine mv_callVi (pc := 48) (n := 2) (ci := 7) (C := R_Program) B (mK_ok sk sv) hNs rfl rfl (c_Program_emit_c l hi _ _ _ hR.2.1 (show 0 ≤ (mv_i S12 145 17).toInt by have := hX.2.1.1; omega) (show (mv_i S12 145 17).toInt < 8192 by have := hX.2.1.1; omega)) rfl (ma_goodc kc_Program_emit) (B.2.2.2.1 _ k_1425) (B.2.2.2.1 _ k_1385) (B.2.2.2.1 _ k_1386) (B.2.2.2.1 _ k_8) ⟨by decide +kernel, by decide +kernel, by decide +kernel⟩ rfl d_Exprs_choose_48 rfl (Nat.le_of_ble_eq_true rfl) ⟨by decide, by decide⟩ ⟨by decide, by decide⟩ ⟨by decide, by decide⟩ (mv_noH hno _) (fun v48 σ48 h48 => ?_)
  obtain ⟨e48, z48⟩ := h48
  subst e48
  have z48 : v48 = mv_i S12 145 17 := z48
  refine mv_iast (pc := 51) B rfl (i32_in (show 0 ≤ (mv_i S12 22 8 + 1 - 1).toInt by rw [m5]; omega) (show (mv_i S12 22 8 + 1 - 1).toInt < 1024 by rw [m5]; omega)) d_Exprs_choose_51 ?_
  refine mv_gen (fun S52 eS52 => ?_)
  have hR : Rw 145 (mv_r S52) := by rw [eS52]; exact hR
  have hF : RF 145 σ S52 := by rw [eS52]; exact hF.mark _ _ |>.rel |>.row ⟨by omega, by omega⟩ _ _ |>.emit _ _ |>.row ⟨by omega, by omega⟩ _ _
  have hX : XM 145 th e0 bs BL f0 g0 ns S52 (((63, v48) : Mk) :: ms) (sm wt ms) (sm wr ms) (s0 + 1) := by rw [eS52]; exact hX.choose hP (by omega) (by omega) (show (mv_i S12 22 8 + 1 - 1).toNatClampNeg = _ by rw [m5]; exact m7) ⟨y9.1, by omega⟩ (by rw [z48]; exact m8) (by omega)
  have t7 := Eq.trans (congrArg Int32.toInt (show mv_i S52 3 7 = mv_i _ 3 7 by rw [eS52]; rfl)) t7
  have t8 := Eq.trans (congrArg Int32.toInt (show mv_i S52 3 8 = mv_i _ 3 8 by rw [eS52]; rfl)) t8
  have t9 := Eq.trans (congrArg Int32.toInt (show mv_i S52 3 9 = mv_i _ 3 9 by rw [eS52]; rfl)) t9
  have kp := Eq.trans (show mv_a S52 4 = mv_a _ 4 by rw [eS52]; rfl) kp
  have y1 : sm wt (((63, v48) : Mk) :: ms) = wt (63, v48) + sm wt ms := rfl
  have y2 : sm wr (((63, v48) : Mk) :: ms) = wr (63, v48) + sm wr ms := rfl
  have y3 : sm wd (((63, v48) : Mk) :: ms) = wd (63, v48) + sm wd ms := rfl
  have y4 : sm wc (((63, v48) : Mk) :: ms) = wc (63, v48) + sm wc ms := rfl
  have x1 : wt (63, v48) = 0 := rfl
  have x2 : wr (63, v48) = 0 := rfl
  have x3 : wd (63, v48) = 1 := rfl
  have x4 : wc (63, v48) = 0 := rfl
  have hend : 0 ≤ (mv_i S52 3 9).toInt ∨ ∃ ms2 s2 a2, a < a2 ∧ XM 145 th e0 bs BL f0 g0 ns S52 (ms2) (sm wt ms2 + 0) (sm wr ms2 + 0) (s2) ∧ TI S52 sz bd ms2 s2 a2 := by
    by_cases hw : (mv_i S52 3 9).toInt < 0
    · refine Or.inr ⟨((63, v48) : Mk) :: ms, s0 + 1, a + 1, by omega, ?_, by omega, hw, by omega, ?_, by omega, by omega, (hWm.up (by omega)).cons (fun q => absurd (show (63 : Int32) = 123 from q) (by decide))⟩
      · rw [y1, y2, x1, x2, Nat.zero_add, Nat.zero_add]
        exact hX
      · have := (r9.2.1 (by omega)).2.2.1
        have : ¬ (mv_i σ 3 8).toInt = 60 := fun q => this (Int32.toInt_inj.mp q)
        omega
    · exact Or.inl (by omega)
  clear eS52
  exact mv_vret (pc := 52) B hr d_Exprs_choose_52 (Nat.le_refl _) (Nat.le_refl _) ⟨rfl, hF, hX.1.2.2.2.1, hend⟩
