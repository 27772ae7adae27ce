/-! the reference's Book: the readers of statements -/
theorem YT.rng {B len th q e d n a1 q' e' n' b1 b2 c1 c2 : Nat} {σ S T : mv_H} {L : List (Nat × Nat × (mv_H → Prop))} (h : YT B len th σ q e n a1 S q' e' d n' b1 b2 L) (g : Tq B len T T c1 c2) (hb : b2 ≤ c1) (f : TF B S T) (z : (mv_i T B 38).toInt ≤ 0 → (mv_i S B 38).toInt ≤ 0) : YT B len th σ q e n a1 T q' e' d n' c1 c2 L := by
  have hp := h.P
  have h3 := hp.le
  exact h.xs ⟨⟨g, by rw [f.1 _ _ (by omega)]; exact hp.2.1, by rw [f.1 _ _ (by omega)]; exact hp.2.2.1, by omega, by rw [f.1 _ _ (by omega)]; exact hp.2.2.2.2.1, hp.2.2.2.2.2.xf (f.xf (n := 0))⟩, f.xf, Nat.le_refl _, by omega, z⟩

def y_Book_statement : MethodName := ⟨"MachineLoomModel$Book", "statement", "()I"⟩
abbrev b_Book_statement : ByteArray := prog_15_method_48_code
theorem kc_Book_statement : Cond.code y_Book_statement b_Book_statement 9 (Option.some Jvm.ClassFile.FieldType.int) ∈ ma := ma_of (tb_10 _ (List.mem_of_getElem? (i := 79) rfl)) rfl
def y_Book_block : MethodName := ⟨"MachineLoomModel$Book", "block", "()I"⟩
abbrev b_Book_block : ByteArray := prog_15_method_47_code
theorem kc_Book_block : Cond.code y_Book_block b_Book_block 5 (Option.some Jvm.ClassFile.FieldType.int) ∈ ma := ma_of (tb_10 _ (List.mem_of_getElem? (i := 75) rfl)) rfl
def YSt (l : Launch) (dA : FieldType → ClassId) (D : va_G) (al : Nat → Nat) (ext : mv_Sh) (sk sv : Nat → Nat) (B g : Nat) : Prop := YK l dA D al ext sk sv B y_Book_statement b_Book_statement 9 (14 * g + 26) (500 * g + 960) g (fun len th q e d n a1 => YO B len th q e d n a1 (g + 1))
def YBl (l : Launch) (dA : FieldType → ClassId) (D : va_G) (al : Nat → Nat) (ext : mv_Sh) (sk sv : Nat → Nat) (B g : Nat) : Prop := YK l dA D al ext sk sv B y_Book_block b_Book_block 5 (14 * g + 24) (500 * g + 900) g (fun len th q e d n a1 => BO B len th q e d n a1 g)
def y_Book_letStatement : MethodName := ⟨"MachineLoomModel$Book", "letStatement", "()I"⟩
abbrev b_Book_letStatement : ByteArray := prog_15_method_49_code
theorem kc_Book_letStatement : Cond.code y_Book_letStatement b_Book_letStatement 4 (Option.some Jvm.ClassFile.FieldType.int) ∈ ma := ma_of (tb_10 _ (List.mem_of_getElem? (i := 84) rfl)) rfl
theorem k_1882 : (Jvm.Cond.fieldLink "MachineLoomModel$Book" (382 : Nat) "MachineLoomModel$Book" "letsEver" "I") ∈ ma := ma_of (tb_8 _ (List.mem_of_getElem? (i := 202) rfl)) rfl
theorem k_2194 : (Jvm.Cond.methodLink "MachineLoomModel$Book" (356 : Nat) ({ cls := "MachineLoomModel$Book", name := "name", desc := "()V" } : Jvm.MethodName)) ∈ ma := ma_of (tb_10 _ (List.mem_of_getElem? (i := 34) rfl)) rfl
theorem k_2196 : (Jvm.Cond.instanceMethod ({ cls := "MachineLoomModel$Book", name := "name", desc := "()V" } : Jvm.MethodName)) ∈ ma := ma_of (tb_10 _ (List.mem_of_getElem? (i := 36) rfl)) rfl
theorem ks_94 : Cond.selects "MachineLoomModel$Book" ⟨"MachineLoomModel$Book", "name", "()V"⟩ ⟨"MachineLoomModel$Book", "name", "()V"⟩ ∈ ma := ma_sel 94 rfl rfl
theorem d_Book_letStatement_0 : decode b_Book_letStatement 0 = .ok (.aload_n 0, 1) := by decide +kernel
theorem d_Book_letStatement_1 : decode b_Book_letStatement 1 = .ok (.invokevirtual 203, 3) := by decide +kernel
theorem d_Book_letStatement_4 : decode b_Book_letStatement 4 = .ok (.aload_n 0, 1) := by decide +kernel
theorem d_Book_letStatement_5 : decode b_Book_letStatement 5 = .ok (.invokevirtual 356, 3) := by decide +kernel
theorem d_Book_letStatement_8 : decode b_Book_letStatement 8 = .ok (.aload_n 0, 1) := by decide +kernel
theorem d_Book_letStatement_9 : decode b_Book_letStatement 9 = .ok (.getfield 350, 3) := by decide +kernel
theorem d_Book_letStatement_12 : decode b_Book_letStatement 12 = .ok (.istore_n 1, 1) := by decide +kernel
theorem d_Book_letStatement_13 : decode b_Book_letStatement 13 = .ok (.aload_n 0, 1) := by decide +kernel
theorem d_Book_letStatement_14 : decode b_Book_letStatement 14 = .ok (.getfield 353, 3) := by decide +kernel
theorem d_Book_letStatement_17 : decode b_Book_letStatement 17 = .ok (.istore_n 2, 1) := by decide +kernel
theorem d_Book_letStatement_18 : decode b_Book_letStatement 18 = .ok (.aload_n 0, 1) := by decide +kernel
theorem d_Book_letStatement_19 : decode b_Book_letStatement 19 = .ok (.bipush 61, 2) := by decide +kernel
theorem d_Book_letStatement_21 : decode b_Book_letStatement 21 = .ok (.invokevirtual 259, 3) := by decide +kernel
theorem d_Book_letStatement_24 : decode b_Book_letStatement 24 = .ok (.aload_n 0, 1) := by decide +kernel
theorem d_Book_letStatement_25 : decode b_Book_letStatement 25 = .ok (.invokevirtual 256, 3) := by decide +kernel
theorem d_Book_letStatement_28 : decode b_Book_letStatement 28 = .ok (.istore_n 3, 1) := by decide +kernel
theorem d_Book_letStatement_29 : decode b_Book_letStatement 29 = .ok (.aload_n 0, 1) := by decide +kernel
theorem d_Book_letStatement_30 : decode b_Book_letStatement 30 = .ok (.bipush 59, 2) := by decide +kernel
theorem d_Book_letStatement_32 : decode b_Book_letStatement 32 = .ok (.invokevirtual 259, 3) := by decide +kernel
theorem d_Book_letStatement_35 : decode b_Book_letStatement 35 = .ok (.aload_n 0, 1) := by decide +kernel
theorem d_Book_letStatement_36 : decode b_Book_letStatement 36 = .ok (.iload_n 1, 1) := by decide +kernel
theorem d_Book_letStatement_37 : decode b_Book_letStatement 37 = .ok (.iload_n 2, 1) := by decide +kernel
theorem d_Book_letStatement_38 : decode b_Book_letStatement 38 = .ok (.invokevirtual 308, 3) := by decide +kernel
theorem d_Book_letStatement_41 : decode b_Book_letStatement 41 = .ok (.ifCond .ge (21), 3) := by decide +kernel
theorem d_Book_letStatement_44 : decode b_Book_letStatement 44 = .ok (.aload_n 0, 1) := by decide +kernel
theorem d_Book_letStatement_45 : decode b_Book_letStatement 45 = .ok (.iload_n 1, 1) := by decide +kernel
theorem d_Book_letStatement_46 : decode b_Book_letStatement 46 = .ok (.iload_n 2, 1) := by decide +kernel
theorem d_Book_letStatement_47 : decode b_Book_letStatement 47 = .ok (.invokevirtual 311, 3) := by decide +kernel
theorem d_Book_letStatement_50 : decode b_Book_letStatement 50 = .ok (.ifCond .ne (12), 3) := by decide +kernel
theorem d_Book_letStatement_53 : decode b_Book_letStatement 53 = .ok (.aload_n 0, 1) := by decide +kernel
theorem d_Book_letStatement_54 : decode b_Book_letStatement 54 = .ok (.iload_n 1, 1) := by decide +kernel
theorem d_Book_letStatement_55 : decode b_Book_letStatement 55 = .ok (.iload_n 2, 1) := by decide +kernel
theorem d_Book_letStatement_56 : decode b_Book_letStatement 56 = .ok (.invokevirtual 315, 3) := by decide +kernel
theorem d_Book_letStatement_59 : decode b_Book_letStatement 59 = .ok (.ifCond .lt (20), 3) := by decide +kernel
theorem d_Book_letStatement_62 : decode b_Book_letStatement 62 = .ok (.aload_n 0, 1) := by decide +kernel
theorem d_Book_letStatement_63 : decode b_Book_letStatement 63 = .ok (.iconst 2, 1) := by decide +kernel
theorem d_Book_letStatement_64 : decode b_Book_letStatement 64 = .ok (.iload_n 1, 1) := by decide +kernel
theorem d_Book_letStatement_65 : decode b_Book_letStatement 65 = .ok (.invokevirtual 267, 3) := by decide +kernel
theorem d_Book_letStatement_68 : decode b_Book_letStatement 68 = .ok (.aload_n 0, 1) := by decide +kernel
theorem d_Book_letStatement_69 : decode b_Book_letStatement 69 = .ok (.bipush 13, 2) := by decide +kernel
theorem d_Book_letStatement_71 : decode b_Book_letStatement 71 = .ok (.iconst 0, 1) := by decide +kernel
theorem d_Book_letStatement_72 : decode b_Book_letStatement 72 = .ok (.iconst 0, 1) := by decide +kernel
theorem d_Book_letStatement_73 : decode b_Book_letStatement 73 = .ok (.iconst 0, 1) := by decide +kernel
theorem d_Book_letStatement_74 : decode b_Book_letStatement 74 = .ok (.iconst 0, 1) := by decide +kernel
theorem d_Book_letStatement_75 : decode b_Book_letStatement 75 = .ok (.invokevirtual 271, 3) := by decide +kernel
theorem d_Book_letStatement_78 : decode b_Book_letStatement 78 = .ok (.ireturn, 1) := by decide +kernel
theorem d_Book_letStatement_79 : decode b_Book_letStatement 79 = .ok (.aload_n 0, 1) := by decide +kernel
theorem d_Book_letStatement_80 : decode b_Book_letStatement 80 = .ok (.getfield 382, 3) := by decide +kernel
theorem d_Book_letStatement_83 : decode b_Book_letStatement 83 = .ok (.bipush 64, 2) := by decide +kernel
theorem d_Book_letStatement_85 : decode b_Book_letStatement 85 = .ok (.if_icmp .lt (10), 3) := by decide +kernel
theorem d_Book_letStatement_88 : decode b_Book_letStatement 88 = .ok (.aload_n 0, 1) := by decide +kernel
theorem d_Book_letStatement_89 : decode b_Book_letStatement 89 = .ok (.bipush 6, 2) := by decide +kernel
theorem d_Book_letStatement_91 : decode b_Book_letStatement 91 = .ok (.iload_n 1, 1) := by decide +kernel
theorem d_Book_letStatement_92 : decode b_Book_letStatement 92 = .ok (.invokevirtual 267, 3) := by decide +kernel
theorem d_Book_letStatement_95 : decode b_Book_letStatement 95 = .ok (.aload_n 0, 1) := by decide +kernel
theorem d_Book_letStatement_96 : decode b_Book_letStatement 96 = .ok (.getfield 69, 3) := by decide +kernel
theorem d_Book_letStatement_99 : decode b_Book_letStatement 99 = .ok (.aload_n 0, 1) := by decide +kernel
theorem d_Book_letStatement_100 : decode b_Book_letStatement 100 = .ok (.getfield 244, 3) := by decide +kernel
theorem d_Book_letStatement_103 : decode b_Book_letStatement 103 = .ok (.iload_n 1, 1) := by decide +kernel
theorem d_Book_letStatement_104 : decode b_Book_letStatement 104 = .ok (.iastore, 1) := by decide +kernel
theorem d_Book_letStatement_105 : decode b_Book_letStatement 105 = .ok (.aload_n 0, 1) := by decide +kernel
theorem d_Book_letStatement_106 : decode b_Book_letStatement 106 = .ok (.getfield 72, 3) := by decide +kernel
theorem d_Book_letStatement_109 : decode b_Book_letStatement 109 = .ok (.aload_n 0, 1) := by decide +kernel
theorem d_Book_letStatement_110 : decode b_Book_letStatement 110 = .ok (.getfield 244, 3) := by decide +kernel
theorem d_Book_letStatement_113 : decode b_Book_letStatement 113 = .ok (.iload_n 2, 1) := by decide +kernel
theorem d_Book_letStatement_114 : decode b_Book_letStatement 114 = .ok (.iastore, 1) := by decide +kernel
theorem d_Book_letStatement_115 : decode b_Book_letStatement 115 = .ok (.aload_n 0, 1) := by decide +kernel
theorem d_Book_letStatement_116 : decode b_Book_letStatement 116 = .ok (.getfield 75, 3) := by decide +kernel
theorem d_Book_letStatement_119 : decode b_Book_letStatement 119 = .ok (.aload_n 0, 1) := by decide +kernel
theorem d_Book_letStatement_120 : decode b_Book_letStatement 120 = .ok (.getfield 244, 3) := by decide +kernel
theorem d_Book_letStatement_123 : decode b_Book_letStatement 123 = .ok (.aload_n 0, 1) := by decide +kernel
theorem d_Book_letStatement_124 : decode b_Book_letStatement 124 = .ok (.getfield 97, 3) := by decide +kernel
theorem d_Book_letStatement_127 : decode b_Book_letStatement 127 = .ok (.iload_n 3, 1) := by decide +kernel
theorem d_Book_letStatement_128 : decode b_Book_letStatement 128 = .ok (.iaload, 1) := by decide +kernel
theorem d_Book_letStatement_129 : decode b_Book_letStatement 129 = .ok (.iastore, 1) := by decide +kernel
theorem d_Book_letStatement_130 : decode b_Book_letStatement 130 = .ok (.aload_n 0, 1) := by decide +kernel
theorem d_Book_letStatement_131 : decode b_Book_letStatement 131 = .ok (.getfield 78, 3) := by decide +kernel
theorem d_Book_letStatement_134 : decode b_Book_letStatement 134 = .ok (.aload_n 0, 1) := by decide +kernel
theorem d_Book_letStatement_135 : decode b_Book_letStatement 135 = .ok (.getfield 244, 3) := by decide +kernel
theorem d_Book_letStatement_138 : decode b_Book_letStatement 138 = .ok (.aload_n 0, 1) := by decide +kernel
theorem d_Book_letStatement_139 : decode b_Book_letStatement 139 = .ok (.getfield 382, 3) := by decide +kernel
theorem d_Book_letStatement_142 : decode b_Book_letStatement 142 = .ok (.iastore, 1) := by decide +kernel
theorem d_Book_letStatement_143 : decode b_Book_letStatement 143 = .ok (.aload_n 0, 1) := by decide +kernel
theorem d_Book_letStatement_144 : decode b_Book_letStatement 144 = .ok (.dup, 1) := by decide +kernel
theorem d_Book_letStatement_145 : decode b_Book_letStatement 145 = .ok (.getfield 244, 3) := by decide +kernel
theorem d_Book_letStatement_148 : decode b_Book_letStatement 148 = .ok (.iconst 1, 1) := by decide +kernel
theorem d_Book_letStatement_149 : decode b_Book_letStatement 149 = .ok (.iadd, 1) := by decide +kernel
theorem d_Book_letStatement_150 : decode b_Book_letStatement 150 = .ok (.putfield 244, 3) := by decide +kernel
theorem d_Book_letStatement_153 : decode b_Book_letStatement 153 = .ok (.aload_n 0, 1) := by decide +kernel
theorem d_Book_letStatement_154 : decode b_Book_letStatement 154 = .ok (.dup, 1) := by decide +kernel
theorem d_Book_letStatement_155 : decode b_Book_letStatement 155 = .ok (.getfield 382, 3) := by decide +kernel
theorem d_Book_letStatement_158 : decode b_Book_letStatement 158 = .ok (.iconst 1, 1) := by decide +kernel
theorem d_Book_letStatement_159 : decode b_Book_letStatement 159 = .ok (.iadd, 1) := by decide +kernel
theorem d_Book_letStatement_160 : decode b_Book_letStatement 160 = .ok (.putfield 382, 3) := by decide +kernel
theorem d_Book_letStatement_163 : decode b_Book_letStatement 163 = .ok (.aload_n 0, 1) := by decide +kernel
theorem d_Book_letStatement_164 : decode b_Book_letStatement 164 = .ok (.bipush 14, 2) := by decide +kernel
theorem d_Book_letStatement_166 : decode b_Book_letStatement 166 = .ok (.aload_n 0, 1) := by decide +kernel
theorem d_Book_letStatement_167 : decode b_Book_letStatement 167 = .ok (.getfield 382, 3) := by decide +kernel
theorem d_Book_letStatement_170 : decode b_Book_letStatement 170 = .ok (.iconst 1, 1) := by decide +kernel
theorem d_Book_letStatement_171 : decode b_Book_letStatement 171 = .ok (.isub, 1) := by decide +kernel
theorem d_Book_letStatement_172 : decode b_Book_letStatement 172 = .ok (.iload_n 3, 1) := by decide +kernel
theorem d_Book_letStatement_173 : decode b_Book_letStatement 173 = .ok (.iconst 0, 1) := by decide +kernel
theorem d_Book_letStatement_174 : decode b_Book_letStatement 174 = .ok (.iconst 0, 1) := by decide +kernel
theorem d_Book_letStatement_175 : decode b_Book_letStatement 175 = .ok (.invokevirtual 271, 3) := by decide +kernel
theorem d_Book_letStatement_178 : decode b_Book_letStatement 178 = .ok (.ireturn, 1) := by decide +kernel
set_option maxHeartbeats 4000000 in
set_option maxRecDepth 100000 in
theorem c_Book_letStatement_x (l : Launch) {dA : FieldType → ClassId} {D : va_G} {al : Nat → Nat} {ext : mv_Sh} {sk sv : Nat → Nat} (hi : mv_inj (mg dA D al ext)) (σ : mv_H) (f len th q ev d n a1 a2 : Nat) (hf : d + f = 61) (hP : SS 74 len th q ev d n a1 a2 σ) (hk : mv_i σ 74 4 = 1) : mv_C l y_Book_letStatement (Cond.code y_Book_letStatement b_Book_letStatement 4 (Option.some Jvm.ClassFile.FieldType.int) :: ma) ({ frames := 14 * f + 25, cells := 0, slots := 0, locals := 500 * f + 930 }) (mg dA D al ext) (mK sk sv) [.ref (al 74)] σ (mv_Ui (YO 74 len th q ev d n a1 (f + 1) σ) ("MachineLoomModel$Book$Wrong", al 107) (BF 74 σ)) := by
  refine mv_C.ofV (cc := b_Book_letStatement) (nL := 4) (ret := (Option.some Jvm.ClassFile.FieldType.int)) (by decide +kernel) rfl hi (Nat.le_of_ble_eq_true rfl) ?_
  intro p e s m below meth c B hNs hr hnm hno
  have hS := YT.rf hP
  have hn0 := hP.1.le.1
  have hL00 := hS.le
  refine mv_aload_n (pc := 0) B d_Book_letStatement_0 rfl 0 rfl ?_
  refine mv_callVUv (pc := 1) (n := 0) (ci := 12) (C := R_Book) B (mK_ok sk sv) hNs rfl rfl (c_Book_pass_x l hi _ len _ _ hS.P.1) rfl (ma_goodc kc_Book_pass) (B.2.2.2.1 _ k_2173) (B.2.2.2.1 _ k_2175) (B.2.2.2.1 _ ks_90) (B.2.2.2.1 _ k_13) ⟨by decide +kernel, by decide +kernel, by decide +kernel⟩ rfl d_Book_letStatement_1 rfl (Nat.le_of_ble_eq_true rfl) ⟨by first | decide | (dsimp only; omega), by first | decide | (dsimp only; omega)⟩ ⟨Nat.le_refl _, Nat.le_refl _⟩ ⟨Nat.le_refl _, Nat.le_refl _⟩ (mv_noH hno _) (fun τ9 g9 => Or.inr ⟨rfl, hS.1.2.1.bf.tr g9.bf⟩) (fun σ1 h1 => ?_)
  have w1 := hS.P.w (by rw [hk]; decide)
  obtain ⟨d1, t1, u1, q1, g1⟩ := h1
  rw [hS.P.2.1] at d1
  have hS := hS.pass q1 g1
  have hL1 := hS.le
  refine mv_aload_n (pc := 4) B d_Book_letStatement_4 rfl 0 rfl ?_
  refine mv_callVUv (pc := 5) (n := 0) (ci := 12) (C := R_Book) B (mK_ok sk sv) hNs rfl rfl (c_Book_name_x l hi _ len _ _ hS.P.1) rfl (ma_goodc kc_Book_name) (B.2.2.2.1 _ k_2194) (B.2.2.2.1 _ k_2196) (B.2.2.2.1 _ ks_94) (B.2.2.2.1 _ k_13) ⟨by decide +kernel, by decide +kernel, by decide +kernel⟩ rfl d_Book_letStatement_5 rfl (Nat.le_of_ble_eq_true rfl) ⟨by first | decide | (dsimp only; omega), by first | decide | (dsimp only; omega)⟩ ⟨Nat.le_refl _, Nat.le_refl _⟩ ⟨Nat.le_refl _, Nat.le_refl _⟩ (mv_noH hno _) (fun τ9 g9 => Or.inr ⟨rfl, hS.1.2.1.bf.tr g9⟩) (fun σ5 h5 => ?_)
  obtain ⟨k5, d5, ⟨t5, u5, q5, g5⟩, y5⟩ := h5
  have w5 := hS.P.w (by rw [k5]; decide)
  rw [hS.P.2.1] at d5
  have hsp := name_sp (c1 := 0) (c2 := 0) y5 hS.P.1.sp
  have hS := hS.name q5 g5 y5
  have hL5 := hS.le
  refine mv_aload_n (pc := 8) B d_Book_letStatement_8 rfl 0 rfl ?_
  refine mv_getI (pc := 9) (ci := 12) (C := R_Book) (T := F_Book) (N := 65) B 49 rfl rfl (by decide) i_Book (B.2.2.2.1 _ k_1898) rfl d_Book_letStatement_9 ?_
  refine mv_istore_n (pc := 12) B d_Book_letStatement_12 rfl (by decide) rfl ?_
  refine mv_aload_n (pc := 13) B d_Book_letStatement_13 rfl 1 rfl ?_
  refine mv_getI (pc := 14) (ci := 12) (C := R_Book) (T := F_Book) (N := 65) B 50 rfl rfl (by decide) i_Book (B.2.2.2.1 _ k_1899) rfl d_Book_letStatement_14 ?_
  refine mv_istore_n (pc := 17) B d_Book_letStatement_17 rfl (by decide) rfl ?_
  refine mv_aload_n (pc := 18) B d_Book_letStatement_18 rfl 2 rfl ?_
  refine mv_bipush (pc := 19) (v := 61) B d_Book_letStatement_19 (by decide) ?_
  refine mv_callVUv (pc := 21) (n := 1) (ci := 12) (C := R_Book) B (mK_ok sk sv) hNs rfl rfl (c_Book_need_x l hi _ _ len _ _ hS.P.1) rfl (ma_goodc kc_Book_need) (B.2.2.2.1 _ k_2177) (B.2.2.2.1 _ k_2179) (B.2.2.2.1 _ ks_91) (B.2.2.2.1 _ k_13) ⟨by decide +kernel, by decide +kernel, by decide +kernel⟩ rfl d_Book_letStatement_21 rfl (Nat.le_of_ble_eq_true rfl) ⟨by first | decide | (dsimp only; omega), by first | decide | (dsimp only; omega)⟩ ⟨Nat.le_refl _, Nat.le_refl _⟩ ⟨Nat.le_refl _, Nat.le_refl _⟩ (mv_noH hno _) (fun τ9 g9 => Or.inr ⟨rfl, hS.1.2.1.bf.tr g9.bf⟩) (fun σ21 h21 => ?_)
  obtain ⟨k21, d21, t21, u21, q21, g21⟩ := h21
  have w21 := hS.P.w (by rw [k21]; decide)
  rw [hS.P.2.1] at d21
  have hS := hS.pass q21 g21
  have hL21 := hS.le
  refine mv_aload_n (pc := 24) B d_Book_letStatement_24 rfl 2 rfl ?_
  refine mv_callVUi (pc := 25) (n := 0) (ci := 12) (C := R_Book) B (mK_ok sk sv) hNs rfl rfl (c_Book_expr_x l hi _ (f) len th _ _ _ _ hf hS.P) rfl (ma_goodc kc_Book_expression) (B.2.2.2.1 _ k_2245) (B.2.2.2.1 _ k_2247) (B.2.2.2.1 _ ks_104) (B.2.2.2.1 _ k_13) ⟨by decide +kernel, by decide +kernel, by decide +kernel⟩ rfl d_Book_letStatement_25 rfl (Nat.le_of_ble_eq_true rfl) ⟨by first | decide | (dsimp only; omega), by first | decide | (dsimp only; omega)⟩ ⟨Nat.le_refl _, Nat.le_refl _⟩ ⟨Nat.le_refl _, Nat.le_refl _⟩ (mv_noH hno _) (fun τ9 g9 => Or.inr ⟨rfl, hS.1.2.1.bf.tr g9⟩) (fun v25 σ25 h25 => ?_)
  obtain ⟨n25, t25, u25, s25, m25, r25, x25⟩ := h25
  have i25 := s25.2.2.2.1
  have hS := hS.ex s25 x25
  have hL25 := hS.le
  refine mv_istore_n (pc := 28) B d_Book_letStatement_28 rfl (by decide) rfl ?_
  refine mv_aload_n (pc := 29) B d_Book_letStatement_29 rfl 3 rfl ?_
  refine mv_bipush (pc := 30) (v := 59) B d_Book_letStatement_30 (by decide) ?_
  refine mv_callVUv (pc := 32) (n := 1) (ci := 12) (C := R_Book) B (mK_ok sk sv) hNs rfl rfl (c_Book_need_x l hi _ _ len _ _ hS.P.1) rfl (ma_goodc kc_Book_need) (B.2.2.2.1 _ k_2177) (B.2.2.2.1 _ k_2179) (B.2.2.2.1 _ ks_91) (B.2.2.2.1 _ k_13) ⟨by decide +kernel, by decide +kernel, by decide +kernel⟩ rfl d_Book_letStatement_32 rfl (Nat.le_of_ble_eq_true rfl) ⟨by first | decide | (dsimp only; omega), by first | decide | (dsimp only; omega)⟩ ⟨Nat.le_refl _, Nat.le_refl _⟩ ⟨Nat.le_refl _, Nat.le_refl _⟩ (mv_noH hno _) (fun τ9 g9 => Or.inr ⟨rfl, hS.1.2.1.bf.tr g9.bf⟩) (fun σ32 h32 => ?_)
  obtain ⟨k32, d32, t32, u32, q32, g32⟩ := h32
  have w32 := hS.P.w (by rw [k32]; decide)
  rw [hS.P.2.1] at d32
  have hS := hS.pass q32 g32
  have hL32 := hS.le
  have hM := hS.P.2.2.2.2.2
  have hz := hS.P.1.1.2.2.1
  have hl := hS.P.le.2.2.2
  have hq0 := hsp.1
  have j62 : mv_V p l e ({ frames := 14 * f + 25, cells := 0, slots := 0, locals := 500 * f + 930 }) s m ([.ref (al 74)] : List Value).toArray below meth c (mg dA D al ext) 4 0 0 (mv_Q (mg dA D al ext) below s 0 0 (mv_Ui (YO 74 len th q ev d n a1 (f + 1) σ) ("MachineLoomModel$Book$Wrong", al 107) (BF 74 σ))) σ32 62 [(0, .ref (al 74)), (1, .int (mv_i σ5 74 49))] [] := by
    refine mv_aload_n (pc := 62) B d_Book_letStatement_62 rfl 0 rfl ?_
    refine mv_iconst (pc := 63) (v := 2) B d_Book_letStatement_63 (by decide) ?_
    refine mv_iload_n (pc := 64) B d_Book_letStatement_64 rfl 1 rfl ?_
    refine mv_callVv (pc := 65) (n := 2) (ci := 12) (C := R_Book) B (mK_ok sk sv) hNs rfl rfl (c_Book_fault_x l hi _ _ _ (by decide)) rfl (ma_goodc kc_Book_fault) (B.2.2.2.1 _ k_2185) (B.2.2.2.1 _ k_2187) (B.2.2.2.1 _ ks_92) (B.2.2.2.1 _ k_13) ⟨by decide +kernel, by decide +kernel, by decide +kernel⟩ rfl d_Book_letStatement_65 rfl (Nat.le_of_ble_eq_true rfl) ⟨by first | decide | (dsimp only; omega), by first | decide | (dsimp only; omega)⟩ ⟨Nat.le_refl _, Nat.le_refl _⟩ ⟨Nat.le_refl _, Nat.le_refl _⟩ (mv_noH hno _) (fun σ65 h65 => ?_)
    obtain ⟨f65, n65, k65⟩ := h65
    have hS := hS.ft (FT.rf.of ⟨f65, n65, k65⟩)
    refine mv_aload_n (pc := 68) B d_Book_letStatement_68 rfl 0 rfl ?_
    refine mv_bipush (pc := 69) (v := 13) B d_Book_letStatement_69 (by decide) ?_
    refine mv_iconst (pc := 71) (v := 0) B d_Book_letStatement_71 (by decide) ?_
    refine mv_iconst (pc := 72) (v := 0) B d_Book_letStatement_72 (by decide) ?_
    refine mv_iconst (pc := 73) (v := 0) B d_Book_letStatement_73 (by decide) ?_
    refine mv_iconst (pc := 74) (v := 0) B d_Book_letStatement_74 (by decide) ?_
    refine mv_callVi (pc := 75) (n := 5) (ci := 12) (C := R_Book) B (mK_ok sk sv) hNs rfl rfl (c_Book_node_x l hi _ _ _ _ _ _ hS.R (by have := hS.le; omega) (by have := hS.le; omega)) rfl (ma_goodc kc_Book_node) (B.2.2.2.1 _ k_2269) (B.2.2.2.1 _ k_2271) (B.2.2.2.1 _ ks_110) (B.2.2.2.1 _ k_13) ⟨by decide +kernel, by decide +kernel, by decide +kernel⟩ rfl d_Book_letStatement_75 rfl (Nat.le_of_ble_eq_true rfl) ⟨by first | decide | (dsimp only; omega), by first | decide | (dsimp only; omega)⟩ ⟨Nat.le_refl _, Nat.le_refl _⟩ ⟨Nat.le_refl _, Nat.le_refl _⟩ (mv_noH hno _) (fun v75 σ75 h75 => ?_)
    obtain ⟨e75, z75⟩ := h75
    have hN := hS.node z75 (lo := n) (P := fun τ => SR 74 th τ n (n25 + 1) (f + 1) (n25)) (by omega) hn0 Stb.sr (fun zz => absurd zz n65)
    have hv75 : v75.toInt = ((n25 : Nat) : Int) := by rw [e75]; have := hS.le; omega
    exact mv_iret (pc := 78) B hr rfl d_Book_letStatement_78 (Nat.le_refl _) (Nat.le_refl _) (Or.inl ⟨_, rfl, _, _, _, _, _, n25, hN.1, by omega, hv75, by omega, by omega, fun zz => hN.2.at 0 rfl zz⟩)
  have j95 : ∀ (τ : mv_H) (hT : FT 74 σ32 τ), mv_V p l e ({ frames := 14 * f + 25, cells := 0, slots := 0, locals := 500 * f + 930 }) s m ([.ref (al 74)] : List Value).toArray below meth c (mg dA D al ext) 4 0 0 (mv_Q (mg dA D al ext) below s 0 0 (mv_Ui (YO 74 len th q ev d n a1 (f + 1) σ) ("MachineLoomModel$Book$Wrong", al 107) (BF 74 σ))) τ 95 [(0, .ref (al 74)), (1, .int (mv_i σ5 74 49)), (2, .int (mv_i σ5 74 50)), (3, .int v25)] [] := by
    intro τ hT
    have hS := hS.ft hT
    have hL95 := hS.le
    have h35 := hS.SS.2.1
    refine mv_aload_n (pc := 95) B d_Book_letStatement_95 rfl 0 rfl ?_
    refine mv_getR (pc := 96) (ci := 12) (C := R_Book) (T := F_Book) (N := 65) B 31 rfl rfl (by decide) i_Book (B.2.2.2.1 _ k_1877) rfl (hS.R.1 _ 31 _ rfl) d_Book_letStatement_96 ?_
    refine mv_aload_n (pc := 99) B d_Book_letStatement_99 rfl 0 rfl ?_
    refine mv_getI (pc := 100) (ci := 12) (C := R_Book) (T := F_Book) (N := 65) B 35 rfl rfl (by decide) i_Book (B.2.2.2.1 _ k_1881) rfl d_Book_letStatement_100 ?_
    refine mv_iload_n (pc := 103) B d_Book_letStatement_103 rfl 1 rfl ?_
    refine mv_iast (pc := 104) B rfl (i32_in (x := mv_i τ 74 35) (by omega) (by omega)) d_Book_letStatement_104 ?_
    refine mv_aload_n (pc := 105) B d_Book_letStatement_105 rfl 0 rfl ?_
    refine mv_getR (pc := 106) (ci := 12) (C := R_Book) (T := F_Book) (N := 65) B 32 rfl rfl (by decide) i_Book (B.2.2.2.1 _ k_1878) rfl (hS.R.1 _ 32 _ rfl) d_Book_letStatement_106 ?_
    refine mv_aload_n (pc := 109) B d_Book_letStatement_109 rfl 0 rfl ?_
    refine mv_getI (pc := 110) (ci := 12) (C := R_Book) (T := F_Book) (N := 65) B 35 rfl rfl (by decide) i_Book (B.2.2.2.1 _ k_1881) rfl d_Book_letStatement_110 ?_
    refine mv_iload_n (pc := 113) B d_Book_letStatement_113 rfl 2 rfl ?_
    refine mv_iast (pc := 114) B rfl (i32_in (x := mv_i τ 74 35) (by omega) (by omega)) d_Book_letStatement_114 ?_
    refine mv_aload_n (pc := 115) B d_Book_letStatement_115 rfl 0 rfl ?_
    refine mv_getR (pc := 116) (ci := 12) (C := R_Book) (T := F_Book) (N := 65) B 33 rfl rfl (by decide) i_Book (B.2.2.2.1 _ k_1879) rfl (hS.R.1 _ 33 _ rfl) d_Book_letStatement_116 ?_
    refine mv_aload_n (pc := 119) B d_Book_letStatement_119 rfl 0 rfl ?_
    refine mv_getI (pc := 120) (ci := 12) (C := R_Book) (T := F_Book) (N := 65) B 35 rfl rfl (by decide) i_Book (B.2.2.2.1 _ k_1881) rfl d_Book_letStatement_120 ?_
    refine mv_aload_n (pc := 123) B d_Book_letStatement_123 rfl 0 rfl ?_
    refine mv_getR (pc := 124) (ci := 12) (C := R_Book) (T := F_Book) (N := 65) B 45 rfl rfl (by decide) i_Book (B.2.2.2.1 _ k_1894) rfl (hS.R.1 _ 45 _ rfl) d_Book_letStatement_124 ?_
    refine mv_iload_n (pc := 127) B d_Book_letStatement_127 rfl 3 rfl ?_
    refine mv_iald (pc := 128) B rfl (i32_in (by omega) (by omega)) d_Book_letStatement_128 ?_
    refine mv_iast (pc := 129) B rfl (i32_in (x := mv_i τ 74 35) (by omega) (by omega)) d_Book_letStatement_129 ?_
    refine mv_aload_n (pc := 130) B d_Book_letStatement_130 rfl 0 rfl ?_
    refine mv_getR (pc := 131) (ci := 12) (C := R_Book) (T := F_Book) (N := 65) B 34 rfl rfl (by decide) i_Book (B.2.2.2.1 _ k_1880) rfl (hS.R.1 _ 34 _ rfl) d_Book_letStatement_131 ?_
    refine mv_aload_n (pc := 134) B d_Book_letStatement_134 rfl 0 rfl ?_
    refine mv_getI (pc := 135) (ci := 12) (C := R_Book) (T := F_Book) (N := 65) B 35 rfl rfl (by decide) i_Book (B.2.2.2.1 _ k_1881) rfl d_Book_letStatement_135 ?_
    refine mv_aload_n (pc := 138) B d_Book_letStatement_138 rfl 0 rfl ?_
    refine mv_getI (pc := 139) (ci := 12) (C := R_Book) (T := F_Book) (N := 65) B 36 rfl rfl (by decide) i_Book (B.2.2.2.1 _ k_1882) rfl d_Book_letStatement_139 ?_
    refine mv_iast (pc := 142) B rfl (i32_in (x := mv_i τ 74 35) (by omega) (by omega)) d_Book_letStatement_142 ?_
    refine mv_aload_n (pc := 143) B d_Book_letStatement_143 rfl 0 rfl ?_
    refine mv_dup (pc := 144) B d_Book_letStatement_144 rfl ?_
    refine mv_getI (pc := 145) (ci := 12) (C := R_Book) (T := F_Book) (N := 65) B 35 rfl rfl (by decide) i_Book (B.2.2.2.1 _ k_1881) rfl d_Book_letStatement_145 ?_
    refine mv_iconst (pc := 148) (v := 1) B d_Book_letStatement_148 (by decide) ?_
    refine mv_iadd (pc := 149) B d_Book_letStatement_149 ?_
    refine mv_putI (pc := 150) (ci := 12) (C := R_Book) (T := F_Book) (N := 65) B 35 rfl rfl (by decide) i_Book t_Book_ok n_Book (B.2.2.2.1 _ k_1881) rfl rfl rfl rfl d_Book_letStatement_150 ?_
    refine mv_aload_n (pc := 153) B d_Book_letStatement_153 rfl 0 rfl ?_
    refine mv_dup (pc := 154) B d_Book_letStatement_154 rfl ?_
    refine mv_getI (pc := 155) (ci := 12) (C := R_Book) (T := F_Book) (N := 65) B 36 rfl rfl (by decide) i_Book (B.2.2.2.1 _ k_1882) rfl d_Book_letStatement_155 ?_
    refine mv_iconst (pc := 158) (v := 1) B d_Book_letStatement_158 (by decide) ?_
    refine mv_iadd (pc := 159) B d_Book_letStatement_159 ?_
    refine mv_putI (pc := 160) (ci := 12) (C := R_Book) (T := F_Book) (N := 65) B 36 rfl rfl (by decide) i_Book t_Book_ok n_Book (B.2.2.2.1 _ k_1882) rfl rfl rfl rfl d_Book_letStatement_160 ?_
    refine mv_gen (fun S163 eS163 => ?_)
    have e9 : S163 = lt9w 74 τ (mv_i σ5 74 49) (mv_i σ5 74 50) (mv_a τ 97 v25.toNatClampNeg) := eS163
    have hS := hS.let e9 hsp (by omega) (by omega)
    have hL163 := hS.le
    have h36 : (mv_i S163 74 36 - 1).toInt = ev := by rw [sub_one (by have := hS.SS.2.2.1; omega)]; have := hS.SS.2.2.1; omega
    clear eS163
    refine mv_aload_n (pc := 163) B d_Book_letStatement_163 rfl 0 rfl ?_
    refine mv_bipush (pc := 164) (v := 14) B d_Book_letStatement_164 (by decide) ?_
    refine mv_aload_n (pc := 166) B d_Book_letStatement_166 rfl 0 rfl ?_
    refine mv_getI (pc := 167) (ci := 12) (C := R_Book) (T := F_Book) (N := 65) B 36 rfl rfl (by decide) i_Book (B.2.2.2.1 _ k_1882) rfl d_Book_letStatement_167 ?_
    refine mv_iconst (pc := 170) (v := 1) B d_Book_letStatement_170 (by decide) ?_
    refine mv_isub (pc := 171) B d_Book_letStatement_171 ?_
    refine mv_iload_n (pc := 172) B d_Book_letStatement_172 rfl 3 rfl ?_
    refine mv_iconst (pc := 173) (v := 0) B d_Book_letStatement_173 (by decide) ?_
    refine mv_iconst (pc := 174) (v := 0) B d_Book_letStatement_174 (by decide) ?_
    refine mv_callVi (pc := 175) (n := 5) (ci := 12) (C := R_Book) B (mK_ok sk sv) hNs rfl rfl (c_Book_node_x l hi _ _ _ _ _ _ hS.R (by have := hS.le; omega) (by have := hS.le; omega)) rfl (ma_goodc kc_Book_node) (B.2.2.2.1 _ k_2269) (B.2.2.2.1 _ k_2271) (B.2.2.2.1 _ ks_110) (B.2.2.2.1 _ k_13) ⟨by decide +kernel, by decide +kernel, by decide +kernel⟩ rfl d_Book_letStatement_175 rfl (Nat.le_of_ble_eq_true rfl) ⟨by first | decide | (dsimp only; omega), by first | decide | (dsimp only; omega)⟩ ⟨Nat.le_refl _, Nat.le_refl _⟩ ⟨Nat.le_refl _, Nat.le_refl _⟩ (mv_noH hno _) (fun v175 σ175 h175 => ?_)
    obtain ⟨e175, z175⟩ := h175
    have hN := hS.node z175 (lo := n) (P := fun τ => SR 74 th τ n (n25 + 1) (f + 1) (n25)) (by omega) hn0 Stb.sr (fun zz => by
      have hxr := hS.2.at 0 rfl zz
      obtain ⟨g9, hg9⟩ := RG.ofX (r := f + 1) hxr (by omega)
      rw [z175]
      exact SR.set hg9 (by omega) hS.P.nn (by show (0 : Int) < _; omega) (Or.inl ⟨by decide, ⟨by rw [h36]; omega, by rw [h36]; omega⟩, SX.of hg9 hxr.all r25 m25 (Nat.le_refl _) (Nat.le_refl _) (fun _ _ _ => rfl)⟩))
    have hv175 : v175.toInt = ((n25 : Nat) : Int) := by rw [e175]; have := hS.le; omega
    exact mv_iret (pc := 178) B hr rfl d_Book_letStatement_178 (Nat.le_refl _) (Nat.le_refl _) (Or.inl ⟨_, rfl, _, _, _, _, _, n25, hN.1, by omega, hv175, by omega, by omega, fun zz => hN.2.at 0 rfl zz⟩)
  refine mv_aload_n (pc := 35) B d_Book_letStatement_35 rfl 3 rfl ?_
  refine mv_iload_n (pc := 36) B d_Book_letStatement_36 rfl 2 rfl ?_
  refine mv_iload_n (pc := 37) B d_Book_letStatement_37 rfl 1 rfl ?_
  refine mv_callVi (pc := 38) (n := 2) (ci := 12) (C := R_Book) B (mK_ok sk sv) hNs rfl rfl (c_Book_let_x l hi _ _ _ len hS.R hl hM.2.1 hsp) rfl (ma_goodc kc_Book_let) (B.2.2.2.1 _ k_2305) (B.2.2.2.1 _ k_2307) (B.2.2.2.1 _ ks_116) (B.2.2.2.1 _ k_13) ⟨by decide +kernel, by decide +kernel, by decide +kernel⟩ rfl d_Book_letStatement_38 rfl (Nat.le_of_ble_eq_true rfl) ⟨by first | decide | (dsimp only; omega), by first | decide | (dsimp only; omega)⟩ ⟨Nat.le_refl _, Nat.le_refl _⟩ ⟨Nat.le_refl _, Nat.le_refl _⟩ (mv_noH hno _) (fun v38 σ38 h38 => ?_)
  obtain ⟨e38, z38⟩ := h38
  have e38 := e38.symm
  subst e38
  refine mv_if_ge (pc := 41) (tgt := 62) B d_Book_letStatement_41 rfl (fun h41 => ?_) (fun h41 => ?_)
  · skip
    refine mv_lpick [3, 2] rfl ?_
    exact j62
  · skip
    refine mv_aload_n (pc := 44) B d_Book_letStatement_44 rfl 3 rfl ?_
    refine mv_iload_n (pc := 45) B d_Book_letStatement_45 rfl 2 rfl ?_
    refine mv_iload_n (pc := 46) B d_Book_letStatement_46 rfl 1 rfl ?_
    refine mv_callVi (pc := 47) (n := 2) (ci := 12) (C := R_Book) B (mK_ok sk sv) hNs rfl rfl (c_Book_isField_x l hi _ _ _ len hS.R hz hl hM.2.2 hq0) rfl (ma_goodc kc_Book_isField) (B.2.2.2.1 _ k_2309) (B.2.2.2.1 _ k_2311) (B.2.2.2.1 _ ks_117) (B.2.2.2.1 _ k_13) ⟨by decide +kernel, by decide +kernel, by decide +kernel⟩ rfl d_Book_letStatement_47 rfl (Nat.le_of_ble_eq_true rfl) ⟨by first | decide | (dsimp only; omega), by first | decide | (dsimp only; omega)⟩ ⟨Nat.le_refl _, Nat.le_refl _⟩ ⟨Nat.le_refl _, Nat.le_refl _⟩ (mv_noH hno _) (fun v47 σ47 h47 => ?_)
    obtain ⟨e47, z47⟩ := h47
    have e47 := e47.symm
    subst e47
    refine mv_if_ne (pc := 50) (tgt := 62) B d_Book_letStatement_50 rfl (fun h50 => ?_) (fun h50 => ?_)
    · skip
      refine mv_lpick [3, 2] rfl ?_
      exact j62
    · skip
      refine mv_aload_n (pc := 53) B d_Book_letStatement_53 rfl 3 rfl ?_
      refine mv_iload_n (pc := 54) B d_Book_letStatement_54 rfl 2 rfl ?_
      refine mv_iload_n (pc := 55) B d_Book_letStatement_55 rfl 1 rfl ?_
      refine mv_callVi (pc := 56) (n := 2) (ci := 12) (C := R_Book) B (mK_ok sk sv) hNs rfl rfl (c_Book_thing_x l hi _ _ _ len hS.R hl hM.1 hsp) rfl (ma_goodc kc_Book_thing) (B.2.2.2.1 _ k_2212) (B.2.2.2.1 _ k_2214) (B.2.2.2.1 _ ks_97) (B.2.2.2.1 _ k_13) ⟨by decide +kernel, by decide +kernel, by decide +kernel⟩ rfl d_Book_letStatement_56 rfl (Nat.le_of_ble_eq_true rfl) ⟨by first | decide | (dsimp only; omega), by first | decide | (dsimp only; omega)⟩ ⟨Nat.le_refl _, Nat.le_refl _⟩ ⟨Nat.le_refl _, Nat.le_refl _⟩ (mv_noH hno _) (fun v56 σ56 h56 => ?_)
      obtain ⟨e56, z56⟩ := h56
      have e56 := e56.symm
      subst e56
      refine mv_if_lt (pc := 59) (tgt := 79) B d_Book_letStatement_59 rfl (fun h59 => ?_) (fun h59 => ?_)
      · skip
        refine mv_aload_n (pc := 79) B d_Book_letStatement_79 rfl 3 rfl ?_
        refine mv_getI (pc := 80) (ci := 12) (C := R_Book) (T := F_Book) (N := 65) B 36 rfl rfl (by decide) i_Book (B.2.2.2.1 _ k_1882) rfl d_Book_letStatement_80 ?_
        refine mv_bipush (pc := 83) (v := 64) B d_Book_letStatement_83 (by decide) ?_
        refine mv_icmp_lt (pc := 85) (tgt := 95) B d_Book_letStatement_85 rfl (fun h85 => ?_) (fun h85 => ?_)
        · skip
          refine mv_lpick [3, 2, 1, 0] rfl ?_
          exact j95 _ (by first | exact FT.rf | exact FT.rf.of h92)
        · skip
          refine mv_aload_n (pc := 88) B d_Book_letStatement_88 rfl 3 rfl ?_
          refine mv_bipush (pc := 89) (v := 6) B d_Book_letStatement_89 (by decide) ?_
          refine mv_iload_n (pc := 91) B d_Book_letStatement_91 rfl 2 rfl ?_
          refine mv_callVv (pc := 92) (n := 2) (ci := 12) (C := R_Book) B (mK_ok sk sv) hNs rfl rfl (c_Book_fault_x l hi _ _ _ (by decide)) rfl (ma_goodc kc_Book_fault) (B.2.2.2.1 _ k_2185) (B.2.2.2.1 _ k_2187) (B.2.2.2.1 _ ks_92) (B.2.2.2.1 _ k_13) ⟨by decide +kernel, by decide +kernel, by decide +kernel⟩ rfl d_Book_letStatement_92 rfl (Nat.le_of_ble_eq_true rfl) ⟨by first | decide | (dsimp only; omega), by first | decide | (dsimp only; omega)⟩ ⟨Nat.le_refl _, Nat.le_refl _⟩ ⟨Nat.le_refl _, Nat.le_refl _⟩ (mv_noH hno _) (fun σ92 h92 => ?_)
          refine mv_lpick [3, 2, 1, 0] rfl ?_
          exact j95 _ (by first | exact FT.rf | exact FT.rf.of h92)
      · skip
        refine mv_lpick [3, 2] rfl ?_
        exact j62
set_option maxHeartbeats 4000000 in
set_option maxRecDepth 100000 in
theorem c_Book_letStatement_y (l : Launch) {dA : FieldType → ClassId} {D : va_G} {al : Nat → Nat} {ext : mv_Sh} {sk sv : Nat → Nat} (hi : mv_inj (mg dA D al ext)) (σ : mv_H) (f len th q ev d n a1 a2 : Nat) (hf : d + f = 61) (hP : SS 108 len th q ev d n a1 a2 σ) (hk : mv_i σ 108 4 = 1) : mv_C l y_Book_letStatement (Cond.code y_Book_letStatement b_Book_letStatement 4 (Option.some Jvm.ClassFile.FieldType.int) :: ma) ({ frames := 14 * f + 25, cells := 0, slots := 0, locals := 500 * f + 930 }) (mg dA D al ext) (mK sk sv) [.ref (al 108)] σ (mv_Ui (YO 108 len th q ev d n a1 (f + 1) σ) ("MachineLoomModel$Book$Wrong", al 141) (BF 108 σ)) := by
  refine mv_C.ofV (cc := b_Book_letStatement) (nL := 4) (ret := (Option.some Jvm.ClassFile.FieldType.int)) (by decide +kernel) rfl hi (Nat.le_of_ble_eq_true rfl) ?_
  intro p e s m below meth c B hNs hr hnm hno
  have hS := YT.rf hP
  have hn0 := hP.1.le.1
  have hL00 := hS.le
  refine mv_aload_n (pc := 0) B d_Book_letStatement_0 rfl 0 rfl ?_
  refine mv_callVUv (pc := 1) (n := 0) (ci := 12) (C := R_Book) B (mK_ok sk sv) hNs rfl rfl (c_Book_pass_y l hi _ len _ _ hS.P.1) rfl (ma_goodc kc_Book_pass) (B.2.2.2.1 _ k_2173) (B.2.2.2.1 _ k_2175) (B.2.2.2.1 _ ks_90) (B.2.2.2.1 _ k_13) ⟨by decide +kernel, by decide +kernel, by decide +kernel⟩ rfl d_Book_letStatement_1 rfl (Nat.le_of_ble_eq_true rfl) ⟨by first | decide | (dsimp only; omega), by first | decide | (dsimp only; omega)⟩ ⟨Nat.le_refl _, Nat.le_refl _⟩ ⟨Nat.le_refl _, Nat.le_refl _⟩ (mv_noH hno _) (fun τ9 g9 => Or.inr ⟨rfl, hS.1.2.1.bf.tr g9.bf⟩) (fun σ1 h1 => ?_)
  have w1 := hS.P.w (by rw [hk]; decide)
  obtain ⟨d1, t1, u1, q1, g1⟩ := h1
  rw [hS.P.2.1] at d1
  have hS := hS.pass q1 g1
  have hL1 := hS.le
  refine mv_aload_n (pc := 4) B d_Book_letStatement_4 rfl 0 rfl ?_
  refine mv_callVUv (pc := 5) (n := 0) (ci := 12) (C := R_Book) B (mK_ok sk sv) hNs rfl rfl (c_Book_name_y l hi _ len _ _ hS.P.1) rfl (ma_goodc kc_Book_name) (B.2.2.2.1 _ k_2194) (B.2.2.2.1 _ k_2196) (B.2.2.2.1 _ ks_94) (B.2.2.2.1 _ k_13) ⟨by decide +kernel, by decide +kernel, by decide +kernel⟩ rfl d_Book_letStatement_5 rfl (Nat.le_of_ble_eq_true rfl) ⟨by first | decide | (dsimp only; omega), by first | decide | (dsimp only; omega)⟩ ⟨Nat.le_refl _, Nat.le_refl _⟩ ⟨Nat.le_refl _, Nat.le_refl _⟩ (mv_noH hno _) (fun τ9 g9 => Or.inr ⟨rfl, hS.1.2.1.bf.tr g9⟩) (fun σ5 h5 => ?_)
  obtain ⟨k5, d5, ⟨t5, u5, q5, g5⟩, y5⟩ := h5
  have w5 := hS.P.w (by rw [k5]; decide)
  rw [hS.P.2.1] at d5
  have hsp := name_sp (c1 := 0) (c2 := 0) y5 hS.P.1.sp
  have hS := hS.name q5 g5 y5
  have hL5 := hS.le
  refine mv_aload_n (pc := 8) B d_Book_letStatement_8 rfl 0 rfl ?_
  refine mv_getI (pc := 9) (ci := 12) (C := R_Book) (T := F_Book) (N := 65) B 49 rfl rfl (by decide) i_Book (B.2.2.2.1 _ k_1898) rfl d_Book_letStatement_9 ?_
  refine mv_istore_n (pc := 12) B d_Book_letStatement_12 rfl (by decide) rfl ?_
  refine mv_aload_n (pc := 13) B d_Book_letStatement_13 rfl 1 rfl ?_
  refine mv_getI (pc := 14) (ci := 12) (C := R_Book) (T := F_Book) (N := 65) B 50 rfl rfl (by decide) i_Book (B.2.2.2.1 _ k_1899) rfl d_Book_letStatement_14 ?_
  refine mv_istore_n (pc := 17) B d_Book_letStatement_17 rfl (by decide) rfl ?_
  refine mv_aload_n (pc := 18) B d_Book_letStatement_18 rfl 2 rfl ?_
  refine mv_bipush (pc := 19) (v := 61) B d_Book_letStatement_19 (by decide) ?_
  refine mv_callVUv (pc := 21) (n := 1) (ci := 12) (C := R_Book) B (mK_ok sk sv) hNs rfl rfl (c_Book_need_y l hi _ _ len _ _ hS.P.1) rfl (ma_goodc kc_Book_need) (B.2.2.2.1 _ k_2177) (B.2.2.2.1 _ k_2179) (B.2.2.2.1 _ ks_91) (B.2.2.2.1 _ k_13) ⟨by decide +kernel, by decide +kernel, by decide +kernel⟩ rfl d_Book_letStatement_21 rfl (Nat.le_of_ble_eq_true rfl) ⟨by first | decide | (dsimp only; omega), by first | decide | (dsimp only; omega)⟩ ⟨Nat.le_refl _, Nat.le_refl _⟩ ⟨Nat.le_refl _, Nat.le_refl _⟩ (mv_noH hno _) (fun τ9 g9 => Or.inr ⟨rfl, hS.1.2.1.bf.tr g9.bf⟩) (fun σ21 h21 => ?_)
  obtain ⟨k21, d21, t21, u21, q21, g21⟩ := h21
  have w21 := hS.P.w (by rw [k21]; decide)
  rw [hS.P.2.1] at d21
  have hS := hS.pass q21 g21
  have hL21 := hS.le
  refine mv_aload_n (pc := 24) B d_Book_letStatement_24 rfl 2 rfl ?_
  refine mv_callVUi (pc := 25) (n := 0) (ci := 12) (C := R_Book) B (mK_ok sk sv) hNs rfl rfl (c_Book_expr_y l hi _ (f) len th _ _ _ _ hf hS.P) rfl (ma_goodc kc_Book_expression) (B.2.2.2.1 _ k_2245) (B.2.2.2.1 _ k_2247) (B.2.2.2.1 _ ks_104) (B.2.2.2.1 _ k_13) ⟨by decide +kernel, by decide +kernel, by decide +kernel⟩ rfl d_Book_letStatement_25 rfl (Nat.le_of_ble_eq_true rfl) ⟨by first | decide | (dsimp only; omega), by first | decide | (dsimp only; omega)⟩ ⟨Nat.le_refl _, Nat.le_refl _⟩ ⟨Nat.le_refl _, Nat.le_refl _⟩ (mv_noH hno _) (fun τ9 g9 => Or.inr ⟨rfl, hS.1.2.1.bf.tr g9⟩) (fun v25 σ25 h25 => ?_)
  obtain ⟨n25, t25, u25, s25, m25, r25, x25⟩ := h25
  have i25 := s25.2.2.2.1
  have hS := hS.ex s25 x25
  have hL25 := hS.le
  refine mv_istore_n (pc := 28) B d_Book_letStatement_28 rfl (by decide) rfl ?_
  refine mv_aload_n (pc := 29) B d_Book_letStatement_29 rfl 3 rfl ?_
  refine mv_bipush (pc := 30) (v := 59) B d_Book_letStatement_30 (by decide) ?_
  refine mv_callVUv (pc := 32) (n := 1) (ci := 12) (C := R_Book) B (mK_ok sk sv) hNs rfl rfl (c_Book_need_y l hi _ _ len _ _ hS.P.1) rfl (ma_goodc kc_Book_need) (B.2.2.2.1 _ k_2177) (B.2.2.2.1 _ k_2179) (B.2.2.2.1 _ ks_91) (B.2.2.2.1 _ k_13) ⟨by decide +kernel, by decide +kernel, by decide +kernel⟩ rfl d_Book_letStatement_32 rfl (Nat.le_of_ble_eq_true rfl) ⟨by first | decide | (dsimp only; omega), by first | decide | (dsimp only; omega)⟩ ⟨Nat.le_refl _, Nat.le_refl _⟩ ⟨Nat.le_refl _, Nat.le_refl _⟩ (mv_noH hno _) (fun τ9 g9 => Or.inr ⟨rfl, hS.1.2.1.bf.tr g9.bf⟩) (fun σ32 h32 => ?_)
  obtain ⟨k32, d32, t32, u32, q32, g32⟩ := h32
  have w32 := hS.P.w (by rw [k32]; decide)
  rw [hS.P.2.1] at d32
  have hS := hS.pass q32 g32
  have hL32 := hS.le
  have hM := hS.P.2.2.2.2.2
  have hz := hS.P.1.1.2.2.1
  have hl := hS.P.le.2.2.2
  have hq0 := hsp.1
  have j62 : mv_V p l e ({ frames := 14 * f + 25, cells := 0, slots := 0, locals := 500 * f + 930 }) s m ([.ref (al 108)] : List Value).toArray below meth c (mg dA D al ext) 4 0 0 (mv_Q (mg dA D al ext) below s 0 0 (mv_Ui (YO 108 len th q ev d n a1 (f + 1) σ) ("MachineLoomModel$Book$Wrong", al 141) (BF 108 σ))) σ32 62 [(0, .ref (al 108)), (1, .int (mv_i σ5 108 49))] [] := by
    refine mv_aload_n (pc := 62) B d_Book_letStatement_62 rfl 0 rfl ?_
    refine mv_iconst (pc := 63) (v := 2) B d_Book_letStatement_63 (by decide) ?_
    refine mv_iload_n (pc := 64) B d_Book_letStatement_64 rfl 1 rfl ?_
    refine mv_callVv (pc := 65) (n := 2) (ci := 12) (C := R_Book) B (mK_ok sk sv) hNs rfl rfl (c_Book_fault_y l hi _ _ _ (by decide)) rfl (ma_goodc kc_Book_fault) (B.2.2.2.1 _ k_2185) (B.2.2.2.1 _ k_2187) (B.2.2.2.1 _ ks_92) (B.2.2.2.1 _ k_13) ⟨by decide +kernel, by decide +kernel, by decide +kernel⟩ rfl d_Book_letStatement_65 rfl (Nat.le_of_ble_eq_true rfl) ⟨by first | decide | (dsimp only; omega), by first | decide | (dsimp only; omega)⟩ ⟨Nat.le_refl _, Nat.le_refl _⟩ ⟨Nat.le_refl _, Nat.le_refl _⟩ (mv_noH hno _) (fun σ65 h65 => ?_)
    obtain ⟨f65, n65, k65⟩ := h65
    have hS := hS.ft (FT.rf.of ⟨f65, n65, k65⟩)
    refine mv_aload_n (pc := 68) B d_Book_letStatement_68 rfl 0 rfl ?_
    refine mv_bipush (pc := 69) (v := 13) B d_Book_letStatement_69 (by decide) ?_
    refine mv_iconst (pc := 71) (v := 0) B d_Book_letStatement_71 (by decide) ?_
    refine mv_iconst (pc := 72) (v := 0) B d_Book_letStatement_72 (by decide) ?_
    refine mv_iconst (pc := 73) (v := 0) B d_Book_letStatement_73 (by decide) ?_
    refine mv_iconst (pc := 74) (v := 0) B d_Book_letStatement_74 (by decide) ?_
    refine mv_callVi (pc := 75) (n := 5) (ci := 12) (C := R_Book) B (mK_ok sk sv) hNs rfl rfl (c_Book_node_y l hi _ _ _ _ _ _ hS.R (by have := hS.le; omega) (by have := hS.le; omega)) rfl (ma_goodc kc_Book_node) (B.2.2.2.1 _ k_2269) (B.2.2.2.1 _ k_2271) (B.2.2.2.1 _ ks_110) (B.2.2.2.1 _ k_13) ⟨by decide +kernel, by decide +kernel, by decide +kernel⟩ rfl d_Book_letStatement_75 rfl (Nat.le_of_ble_eq_true rfl) ⟨by first | decide | (dsimp only; omega), by first | decide | (dsimp only; omega)⟩ ⟨Nat.le_refl _, Nat.le_refl _⟩ ⟨Nat.le_refl _, Nat.le_refl _⟩ (mv_noH hno _) (fun v75 σ75 h75 => ?_)
    obtain ⟨e75, z75⟩ := h75
    have hN := hS.node z75 (lo := n) (P := fun τ => SR 108 th τ n (n25 + 1) (f + 1) (n25)) (by omega) hn0 Stb.sr (fun zz => absurd zz n65)
    have hv75 : v75.toInt = ((n25 : Nat) : Int) := by rw [e75]; have := hS.le; omega
    exact mv_iret (pc := 78) B hr rfl d_Book_letStatement_78 (Nat.le_refl _) (Nat.le_refl _) (Or.inl ⟨_, rfl, _, _, _, _, _, n25, hN.1, by omega, hv75, by omega, by omega, fun zz => hN.2.at 0 rfl zz⟩)
  have j95 : ∀ (τ : mv_H) (hT : FT 108 σ32 τ), mv_V p l e ({ frames := 14 * f + 25, cells := 0, slots := 0, locals := 500 * f + 930 }) s m ([.ref (al 108)] : List Value).toArray below meth c (mg dA D al ext) 4 0 0 (mv_Q (mg dA D al ext) below s 0 0 (mv_Ui (YO 108 len th q ev d n a1 (f + 1) σ) ("MachineLoomModel$Book$Wrong", al 141) (BF 108 σ))) τ 95 [(0, .ref (al 108)), (1, .int (mv_i σ5 108 49)), (2, .int (mv_i σ5 108 50)), (3, .int v25)] [] := by
    intro τ hT
    have hS := hS.ft hT
    have hL95 := hS.le
    have h35 := hS.SS.2.1
    refine mv_aload_n (pc := 95) B d_Book_letStatement_95 rfl 0 rfl ?_
    refine mv_getR (pc := 96) (ci := 12) (C := R_Book) (T := F_Book) (N := 65) B 31 rfl rfl (by decide) i_Book (B.2.2.2.1 _ k_1877) rfl (hS.R.1 _ 31 _ rfl) d_Book_letStatement_96 ?_
    refine mv_aload_n (pc := 99) B d_Book_letStatement_99 rfl 0 rfl ?_
    refine mv_getI (pc := 100) (ci := 12) (C := R_Book) (T := F_Book) (N := 65) B 35 rfl rfl (by decide) i_Book (B.2.2.2.1 _ k_1881) rfl d_Book_letStatement_100 ?_
    refine mv_iload_n (pc := 103) B d_Book_letStatement_103 rfl 1 rfl ?_
    refine mv_iast (pc := 104) B rfl (i32_in (x := mv_i τ 108 35) (by omega) (by omega)) d_Book_letStatement_104 ?_
    refine mv_aload_n (pc := 105) B d_Book_letStatement_105 rfl 0 rfl ?_
    refine mv_getR (pc := 106) (ci := 12) (C := R_Book) (T := F_Book) (N := 65) B 32 rfl rfl (by decide) i_Book (B.2.2.2.1 _ k_1878) rfl (hS.R.1 _ 32 _ rfl) d_Book_letStatement_106 ?_
    refine mv_aload_n (pc := 109) B d_Book_letStatement_109 rfl 0 rfl ?_
    refine mv_getI (pc := 110) (ci := 12) (C := R_Book) (T := F_Book) (N := 65) B 35 rfl rfl (by decide) i_Book (B.2.2.2.1 _ k_1881) rfl d_Book_letStatement_110 ?_
    refine mv_iload_n (pc := 113) B d_Book_letStatement_113 rfl 2 rfl ?_
    refine mv_iast (pc := 114) B rfl (i32_in (x := mv_i τ 108 35) (by omega) (by omega)) d_Book_letStatement_114 ?_
    refine mv_aload_n (pc := 115) B d_Book_letStatement_115 rfl 0 rfl ?_
    refine mv_getR (pc := 116) (ci := 12) (C := R_Book) (T := F_Book) (N := 65) B 33 rfl rfl (by decide) i_Book (B.2.2.2.1 _ k_1879) rfl (hS.R.1 _ 33 _ rfl) d_Book_letStatement_116 ?_
    refine mv_aload_n (pc := 119) B d_Book_letStatement_119 rfl 0 rfl ?_
    refine mv_getI (pc := 120) (ci := 12) (C := R_Book) (T := F_Book) (N := 65) B 35 rfl rfl (by decide) i_Book (B.2.2.2.1 _ k_1881) rfl d_Book_letStatement_120 ?_
    refine mv_aload_n (pc := 123) B d_Book_letStatement_123 rfl 0 rfl ?_
    refine mv_getR (pc := 124) (ci := 12) (C := R_Book) (T := F_Book) (N := 65) B 45 rfl rfl (by decide) i_Book (B.2.2.2.1 _ k_1894) rfl (hS.R.1 _ 45 _ rfl) d_Book_letStatement_124 ?_
    refine mv_iload_n (pc := 127) B d_Book_letStatement_127 rfl 3 rfl ?_
    refine mv_iald (pc := 128) B rfl (i32_in (by omega) (by omega)) d_Book_letStatement_128 ?_
    refine mv_iast (pc := 129) B rfl (i32_in (x := mv_i τ 108 35) (by omega) (by omega)) d_Book_letStatement_129 ?_
    refine mv_aload_n (pc := 130) B d_Book_letStatement_130 rfl 0 rfl ?_
    refine mv_getR (pc := 131) (ci := 12) (C := R_Book) (T := F_Book) (N := 65) B 34 rfl rfl (by decide) i_Book (B.2.2.2.1 _ k_1880) rfl (hS.R.1 _ 34 _ rfl) d_Book_letStatement_131 ?_
    refine mv_aload_n (pc := 134) B d_Book_letStatement_134 rfl 0 rfl ?_
    refine mv_getI (pc := 135) (ci := 12) (C := R_Book) (T := F_Book) (N := 65) B 35 rfl rfl (by decide) i_Book (B.2.2.2.1 _ k_1881) rfl d_Book_letStatement_135 ?_
    refine mv_aload_n (pc := 138) B d_Book_letStatement_138 rfl 0 rfl ?_
    refine mv_getI (pc := 139) (ci := 12) (C := R_Book) (T := F_Book) (N := 65) B 36 rfl rfl (by decide) i_Book (B.2.2.2.1 _ k_1882) rfl d_Book_letStatement_139 ?_
    refine mv_iast (pc := 142) B rfl (i32_in (x := mv_i τ 108 35) (by omega) (by omega)) d_Book_letStatement_142 ?_
    refine mv_aload_n (pc := 143) B d_Book_letStatement_143 rfl 0 rfl ?_
    refine mv_dup (pc := 144) B d_Book_letStatement_144 rfl ?_
    refine mv_getI (pc := 145) (ci := 12) (C := R_Book) (T := F_Book) (N := 65) B 35 rfl rfl (by decide) i_Book (B.2.2.2.1 _ k_1881) rfl d_Book_letStatement_145 ?_
    refine mv_iconst (pc := 148) (v := 1) B d_Book_letStatement_148 (by decide) ?_
    refine mv_iadd (pc := 149) B d_Book_letStatement_149 ?_
    refine mv_putI (pc := 150) (ci := 12) (C := R_Book) (T := F_Book) (N := 65) B 35 rfl rfl (by decide) i_Book t_Book_ok n_Book (B.2.2.2.1 _ k_1881) rfl rfl rfl rfl d_Book_letStatement_150 ?_
    refine mv_aload_n (pc := 153) B d_Book_letStatement_153 rfl 0 rfl ?_
    refine mv_dup (pc := 154) B d_Book_letStatement_154 rfl ?_
    refine mv_getI (pc := 155) (ci := 12) (C := R_Book) (T := F_Book) (N := 65) B 36 rfl rfl (by decide) i_Book (B.2.2.2.1 _ k_1882) rfl d_Book_letStatement_155 ?_
    refine mv_iconst (pc := 158) (v := 1) B d_Book_letStatement_158 (by decide) ?_
    refine mv_iadd (pc := 159) B d_Book_letStatement_159 ?_
    refine mv_putI (pc := 160) (ci := 12) (C := R_Book) (T := F_Book) (N := 65) B 36 rfl rfl (by decide) i_Book t_Book_ok n_Book (B.2.2.2.1 _ k_1882) rfl rfl rfl rfl d_Book_letStatement_160 ?_
    refine mv_gen (fun S163 eS163 => ?_)
    have e9 : S163 = lt9w 108 τ (mv_i σ5 108 49) (mv_i σ5 108 50) (mv_a τ 131 v25.toNatClampNeg) := eS163
    have hS := hS.let e9 hsp (by omega) (by omega)
    have hL163 := hS.le
    have h36 : (mv_i S163 108 36 - 1).toInt = ev := by rw [sub_one (by have := hS.SS.2.2.1; omega)]; have := hS.SS.2.2.1; omega
    clear eS163
    refine mv_aload_n (pc := 163) B d_Book_letStatement_163 rfl 0 rfl ?_
    refine mv_bipush (pc := 164) (v := 14) B d_Book_letStatement_164 (by decide) ?_
    refine mv_aload_n (pc := 166) B d_Book_letStatement_166 rfl 0 rfl ?_
    refine mv_getI (pc := 167) (ci := 12) (C := R_Book) (T := F_Book) (N := 65) B 36 rfl rfl (by decide) i_Book (B.2.2.2.1 _ k_1882) rfl d_Book_letStatement_167 ?_
    refine mv_iconst (pc := 170) (v := 1) B d_Book_letStatement_170 (by decide) ?_
    refine mv_isub (pc := 171) B d_Book_letStatement_171 ?_
    refine mv_iload_n (pc := 172) B d_Book_letStatement_172 rfl 3 rfl ?_
    refine mv_iconst (pc := 173) (v := 0) B d_Book_letStatement_173 (by decide) ?_
    refine mv_iconst (pc := 174) (v := 0) B d_Book_letStatement_174 (by decide) ?_
    refine mv_callVi (pc := 175) (n := 5) (ci := 12) (C := R_Book) B (mK_ok sk sv) hNs rfl rfl (c_Book_node_y l hi _ _ _ _ _ _ hS.R (by have := hS.le; omega) (by have := hS.le; omega)) rfl (ma_goodc kc_Book_node) (B.2.2.2.1 _ k_2269) (B.2.2.2.1 _ k_2271) (B.2.2.2.1 _ ks_110) (B.2.2.2.1 _ k_13) ⟨by decide +kernel, by decide +kernel, by decide +kernel⟩ rfl d_Book_letStatement_175 rfl (Nat.le_of_ble_eq_true rfl) ⟨by first | decide | (dsimp only; omega), by first | decide | (dsimp only; omega)⟩ ⟨Nat.le_refl _, Nat.le_refl _⟩ ⟨Nat.le_refl _, Nat.le_refl _⟩ (mv_noH hno _) (fun v175 σ175 h175 => ?_)
    obtain ⟨e175, z175⟩ := h175
    have hN := hS.node z175 (lo := n) (P := fun τ => SR 108 th τ n (n25 + 1) (f + 1) (n25)) (by omega) hn0 Stb.sr (fun zz => by
      have hxr := hS.2.at 0 rfl zz
      obtain ⟨g9, hg9⟩ := RG.ofX (r := f + 1) hxr (by omega)
      rw [z175]
      exact SR.set hg9 (by omega) hS.P.nn (by show (0 : Int) < _; omega) (Or.inl ⟨by decide, ⟨by rw [h36]; omega, by rw [h36]; omega⟩, SX.of hg9 hxr.all r25 m25 (Nat.le_refl _) (Nat.le_refl _) (fun _ _ _ => rfl)⟩))
    have hv175 : v175.toInt = ((n25 : Nat) : Int) := by rw [e175]; have := hS.le; omega
    exact mv_iret (pc := 178) B hr rfl d_Book_letStatement_178 (Nat.le_refl _) (Nat.le_refl _) (Or.inl ⟨_, rfl, _, _, _, _, _, n25, hN.1, by omega, hv175, by omega, by omega, fun zz => hN.2.at 0 rfl zz⟩)
  refine mv_aload_n (pc := 35) B d_Book_letStatement_35 rfl 3 rfl ?_
  refine mv_iload_n (pc := 36) B d_Book_letStatement_36 rfl 2 rfl ?_
  refine mv_iload_n (pc := 37) B d_Book_letStatement_37 rfl 1 rfl ?_
  refine mv_callVi (pc := 38) (n := 2) (ci := 12) (C := R_Book) B (mK_ok sk sv) hNs rfl rfl (c_Book_let_y l hi _ _ _ len hS.R hl hM.2.1 hsp) rfl (ma_goodc kc_Book_let) (B.2.2.2.1 _ k_2305) (B.2.2.2.1 _ k_2307) (B.2.2.2.1 _ ks_116) (B.2.2.2.1 _ k_13) ⟨by decide +kernel, by decide +kernel, by decide +kernel⟩ rfl d_Book_letStatement_38 rfl (Nat.le_of_ble_eq_true rfl) ⟨by first | decide | (dsimp only; omega), by first | decide | (dsimp only; omega)⟩ ⟨Nat.le_refl _, Nat.le_refl _⟩ ⟨Nat.le_refl _, Nat.le_refl _⟩ (mv_noH hno _) (fun v38 σ38 h38 => ?_)
  obtain ⟨e38, z38⟩ := h38
  have e38 := e38.symm
  subst e38
  refine mv_if_ge (pc := 41) (tgt := 62) B d_Book_letStatement_41 rfl (fun h41 => ?_) (fun h41 => ?_)
  · skip
    refine mv_lpick [3, 2] rfl ?_
    exact j62
  · skip
    refine mv_aload_n (pc := 44) B d_Book_letStatement_44 rfl 3 rfl ?_
    refine mv_iload_n (pc := 45) B d_Book_letStatement_45 rfl 2 rfl ?_
    refine mv_iload_n (pc := 46) B d_Book_letStatement_46 rfl 1 rfl ?_
    refine mv_callVi (pc := 47) (n := 2) (ci := 12) (C := R_Book) B (mK_ok sk sv) hNs rfl rfl (c_Book_isField_y l hi _ _ _ len hS.R hz hl hM.2.2 hq0) rfl (ma_goodc kc_Book_isField) (B.2.2.2.1 _ k_2309) (B.2.2.2.1 _ k_2311) (B.2.2.2.1 _ ks_117) (B.2.2.2.1 _ k_13) ⟨by decide +kernel, by decide +kernel, by decide +kernel⟩ rfl d_Book_letStatement_47 rfl (Nat.le_of_ble_eq_true rfl) ⟨by first | decide | (dsimp only; omega), by first | decide | (dsimp only; omega)⟩ ⟨Nat.le_refl _, Nat.le_refl _⟩ ⟨Nat.le_refl _, Nat.le_refl _⟩ (mv_noH hno _) (fun v47 σ47 h47 => ?_)
    obtain ⟨e47, z47⟩ := h47
    have e47 := e47.symm
    subst e47
    refine mv_if_ne (pc := 50) (tgt := 62) B d_Book_letStatement_50 rfl (fun h50 => ?_) (fun h50 => ?_)
    · skip
      refine mv_lpick [3, 2] rfl ?_
      exact j62
    · skip
      refine mv_aload_n (pc := 53) B d_Book_letStatement_53 rfl 3 rfl ?_
      refine mv_iload_n (pc := 54) B d_Book_letStatement_54 rfl 2 rfl ?_
      refine mv_iload_n (pc := 55) B d_Book_letStatement_55 rfl 1 rfl ?_
      refine mv_callVi (pc := 56) (n := 2) (ci := 12) (C := R_Book) B (mK_ok sk sv) hNs rfl rfl (c_Book_thing_y l hi _ _ _ len hS.R hl hM.1 hsp) rfl (ma_goodc kc_Book_thing) (B.2.2.2.1 _ k_2212) (B.2.2.2.1 _ k_2214) (B.2.2.2.1 _ ks_97) (B.2.2.2.1 _ k_13) ⟨by decide +kernel, by decide +kernel, by decide +kernel⟩ rfl d_Book_letStatement_56 rfl (Nat.le_of_ble_eq_true rfl) ⟨by first | decide | (dsimp only; omega), by first | decide | (dsimp only; omega)⟩ ⟨Nat.le_refl _, Nat.le_refl _⟩ ⟨Nat.le_refl _, Nat.le_refl _⟩ (mv_noH hno _) (fun v56 σ56 h56 => ?_)
      obtain ⟨e56, z56⟩ := h56
      have e56 := e56.symm
      subst e56
      refine mv_if_lt (pc := 59) (tgt := 79) B d_Book_letStatement_59 rfl (fun h59 => ?_) (fun h59 => ?_)
      · skip
        refine mv_aload_n (pc := 79) B d_Book_letStatement_79 rfl 3 rfl ?_
        refine mv_getI (pc := 80) (ci := 12) (C := R_Book) (T := F_Book) (N := 65) B 36 rfl rfl (by decide) i_Book (B.2.2.2.1 _ k_1882) rfl d_Book_letStatement_80 ?_
        refine mv_bipush (pc := 83) (v := 64) B d_Book_letStatement_83 (by decide) ?_
        refine mv_icmp_lt (pc := 85) (tgt := 95) B d_Book_letStatement_85 rfl (fun h85 => ?_) (fun h85 => ?_)
        · skip
          refine mv_lpick [3, 2, 1, 0] rfl ?_
          exact j95 _ (by first | exact FT.rf | exact FT.rf.of h92)
        · skip
          refine mv_aload_n (pc := 88) B d_Book_letStatement_88 rfl 3 rfl ?_
          refine mv_bipush (pc := 89) (v := 6) B d_Book_letStatement_89 (by decide) ?_
          refine mv_iload_n (pc := 91) B d_Book_letStatement_91 rfl 2 rfl ?_
          refine mv_callVv (pc := 92) (n := 2) (ci := 12) (C := R_Book) B (mK_ok sk sv) hNs rfl rfl (c_Book_fault_y l hi _ _ _ (by decide)) rfl (ma_goodc kc_Book_fault) (B.2.2.2.1 _ k_2185) (B.2.2.2.1 _ k_2187) (B.2.2.2.1 _ ks_92) (B.2.2.2.1 _ k_13) ⟨by decide +kernel, by decide +kernel, by decide +kernel⟩ rfl d_Book_letStatement_92 rfl (Nat.le_of_ble_eq_true rfl) ⟨by first | decide | (dsimp only; omega), by first | decide | (dsimp only; omega)⟩ ⟨Nat.le_refl _, Nat.le_refl _⟩ ⟨Nat.le_refl _, Nat.le_refl _⟩ (mv_noH hno _) (fun σ92 h92 => ?_)
          refine mv_lpick [3, 2, 1, 0] rfl ?_
          exact j95 _ (by first | exact FT.rf | exact FT.rf.of h92)
      · skip
        refine mv_lpick [3, 2] rfl ?_
        exact j62
theorem k_2236 : (Jvm.Cond.methodLink "MachineLoomModel$Book" (388 : Nat) ({ cls := "MachineLoomModel$Book", name := "statement", desc := "()I" } : Jvm.MethodName)) ∈ ma := ma_of (tb_10 _ (List.mem_of_getElem? (i := 76) rfl)) rfl
theorem k_2238 : (Jvm.Cond.instanceMethod ({ cls := "MachineLoomModel$Book", name := "statement", desc := "()I" } : Jvm.MethodName)) ∈ ma := ma_of (tb_10 _ (List.mem_of_getElem? (i := 78) rfl)) rfl
theorem ks_102 : Cond.selects "MachineLoomModel$Book" ⟨"MachineLoomModel$Book", "statement", "()I"⟩ ⟨"MachineLoomModel$Book", "statement", "()I"⟩ ∈ ma := ma_sel 102 rfl rfl
theorem d_Book_block_0 : decode b_Book_block 0 = .ok (.aload_n 0, 1) := by decide +kernel
theorem d_Book_block_1 : decode b_Book_block 1 = .ok (.bipush 123, 2) := by decide +kernel
theorem d_Book_block_3 : decode b_Book_block 3 = .ok (.invokevirtual 259, 3) := by decide +kernel
theorem d_Book_block_6 : decode b_Book_block 6 = .ok (.aload_n 0, 1) := by decide +kernel
theorem d_Book_block_7 : decode b_Book_block 7 = .ok (.dup, 1) := by decide +kernel
theorem d_Book_block_8 : decode b_Book_block 8 = .ok (.getfield 197, 3) := by decide +kernel
theorem d_Book_block_11 : decode b_Book_block 11 = .ok (.iconst 1, 1) := by decide +kernel
theorem d_Book_block_12 : decode b_Book_block 12 = .ok (.iadd, 1) := by decide +kernel
theorem d_Book_block_13 : decode b_Book_block 13 = .ok (.putfield 197, 3) := by decide +kernel
theorem d_Book_block_16 : decode b_Book_block 16 = .ok (.aload_n 0, 1) := by decide +kernel
theorem d_Book_block_17 : decode b_Book_block 17 = .ok (.getfield 244, 3) := by decide +kernel
theorem d_Book_block_20 : decode b_Book_block 20 = .ok (.istore_n 1, 1) := by decide +kernel
theorem d_Book_block_21 : decode b_Book_block 21 = .ok (.iconst (-1), 1) := by decide +kernel
theorem d_Book_block_22 : decode b_Book_block 22 = .ok (.istore_n 2, 1) := by decide +kernel
theorem d_Book_block_23 : decode b_Book_block 23 = .ok (.iconst (-1), 1) := by decide +kernel
theorem d_Book_block_24 : decode b_Book_block 24 = .ok (.istore_n 3, 1) := by decide +kernel
theorem d_Book_block_25 : decode b_Book_block 25 = .ok (.aload_n 0, 1) := by decide +kernel
theorem d_Book_block_26 : decode b_Book_block 26 = .ok (.getfield 151, 3) := by decide +kernel
theorem d_Book_block_29 : decode b_Book_block 29 = .ok (.bipush 125, 2) := by decide +kernel
theorem d_Book_block_31 : decode b_Book_block 31 = .ok (.if_icmp .eq (33), 3) := by decide +kernel
theorem d_Book_block_34 : decode b_Book_block 34 = .ok (.aload_n 0, 1) := by decide +kernel
theorem d_Book_block_35 : decode b_Book_block 35 = .ok (.invokevirtual 388, 3) := by decide +kernel
theorem d_Book_block_38 : decode b_Book_block 38 = .ok (.istore 4, 2) := by decide +kernel
theorem d_Book_block_40 : decode b_Book_block 40 = .ok (.iload_n 3, 1) := by decide +kernel
theorem d_Book_block_41 : decode b_Book_block 41 = .ok (.ifCond .ge (9), 3) := by decide +kernel
theorem d_Book_block_44 : decode b_Book_block 44 = .ok (.iload 4, 2) := by decide +kernel
theorem d_Book_block_46 : decode b_Book_block 46 = .ok (.istore_n 2, 1) := by decide +kernel
theorem d_Book_block_47 : decode b_Book_block 47 = .ok (.goto (11), 3) := by decide +kernel
theorem d_Book_block_50 : decode b_Book_block 50 = .ok (.aload_n 0, 1) := by decide +kernel
theorem d_Book_block_51 : decode b_Book_block 51 = .ok (.getfield 94, 3) := by decide +kernel
theorem d_Book_block_54 : decode b_Book_block 54 = .ok (.iload_n 3, 1) := by decide +kernel
theorem d_Book_block_55 : decode b_Book_block 55 = .ok (.iload 4, 2) := by decide +kernel
theorem d_Book_block_57 : decode b_Book_block 57 = .ok (.iastore, 1) := by decide +kernel
theorem d_Book_block_58 : decode b_Book_block 58 = .ok (.iload 4, 2) := by decide +kernel
theorem d_Book_block_60 : decode b_Book_block 60 = .ok (.istore_n 3, 1) := by decide +kernel
theorem d_Book_block_61 : decode b_Book_block 61 = .ok (.goto (-36), 3) := by decide +kernel
theorem d_Book_block_64 : decode b_Book_block 64 = .ok (.aload_n 0, 1) := by decide +kernel
theorem d_Book_block_65 : decode b_Book_block 65 = .ok (.bipush 125, 2) := by decide +kernel
theorem d_Book_block_67 : decode b_Book_block 67 = .ok (.invokevirtual 259, 3) := by decide +kernel
theorem d_Book_block_70 : decode b_Book_block 70 = .ok (.aload_n 0, 1) := by decide +kernel
theorem d_Book_block_71 : decode b_Book_block 71 = .ok (.dup, 1) := by decide +kernel
theorem d_Book_block_72 : decode b_Book_block 72 = .ok (.getfield 197, 3) := by decide +kernel
theorem d_Book_block_75 : decode b_Book_block 75 = .ok (.iconst 1, 1) := by decide +kernel
theorem d_Book_block_76 : decode b_Book_block 76 = .ok (.isub, 1) := by decide +kernel
theorem d_Book_block_77 : decode b_Book_block 77 = .ok (.putfield 197, 3) := by decide +kernel
theorem d_Book_block_80 : decode b_Book_block 80 = .ok (.aload_n 0, 1) := by decide +kernel
theorem d_Book_block_81 : decode b_Book_block 81 = .ok (.iload_n 1, 1) := by decide +kernel
theorem d_Book_block_82 : decode b_Book_block 82 = .ok (.putfield 244, 3) := by decide +kernel
theorem d_Book_block_85 : decode b_Book_block 85 = .ok (.iload_n 2, 1) := by decide +kernel
theorem d_Book_block_86 : decode b_Book_block 86 = .ok (.ireturn, 1) := by decide +kernel
set_option maxHeartbeats 4000000 in
set_option maxRecDepth 100000 in
theorem c_Book_block_x (l : Launch) {dA : FieldType → ClassId} {D : va_G} {al : Nat → Nat} {ext : mv_Sh} {sk sv : Nat → Nat} (hi : mv_inj (mg dA D al ext)) (σ : mv_H) (f len th q ev d n a1 a2 : Nat) (hf : d + f = 61) (hP : SS 74 len th q ev d n a1 a2 σ) (ihS : ∀ g, g + 1 = f → YSt l dA D al ext sk sv 74 g) : mv_C l y_Book_block (Cond.code y_Book_block b_Book_block 5 (Option.some Jvm.ClassFile.FieldType.int) :: ma) ({ frames := 14 * f + 24, cells := 0, slots := 0, locals := 500 * f + 900 }) (mg dA D al ext) (mK sk sv) [.ref (al 74)] σ (mv_Ui (BO 74 len th q ev d n a1 (f) σ) ("MachineLoomModel$Book$Wrong", al 107) (BF 74 σ)) := by
  refine mv_C.ofV (cc := b_Book_block) (nL := 5) (ret := (Option.some Jvm.ClassFile.FieldType.int)) (by decide +kernel) rfl hi (Nat.le_of_ble_eq_true rfl) ?_
  intro p e s m below meth c B hNs hr hnm hno
  have hS := YT.rf hP
  have hn0 := hP.1.le.1
  have hL00 := hS.le
  refine mv_aload_n (pc := 0) B d_Book_block_0 rfl 0 rfl ?_
  refine mv_bipush (pc := 1) (v := 123) B d_Book_block_1 (by decide) ?_
  refine mv_callVUv (pc := 3) (n := 1) (ci := 12) (C := R_Book) B (mK_ok sk sv) hNs rfl rfl (c_Book_need_x l hi _ _ len _ _ hS.P.1) rfl (ma_goodc kc_Book_need) (B.2.2.2.1 _ k_2177) (B.2.2.2.1 _ k_2179) (B.2.2.2.1 _ ks_91) (B.2.2.2.1 _ k_13) ⟨by decide +kernel, by decide +kernel, by decide +kernel⟩ rfl d_Book_block_3 rfl (Nat.le_of_ble_eq_true rfl) ⟨by first | decide | (dsimp only; omega), by first | decide | (dsimp only; omega)⟩ ⟨Nat.le_refl _, Nat.le_refl _⟩ ⟨Nat.le_refl _, Nat.le_refl _⟩ (mv_noH hno _) (fun τ9 g9 => Or.inr ⟨rfl, hS.1.2.1.bf.tr g9.bf⟩) (fun σ3 h3 => ?_)
  obtain ⟨k3, d3, t3, u3, q3, g3⟩ := h3
  have w3 := hS.P.w (by rw [k3]; decide)
  rw [hS.P.2.1] at d3
  have hS := hS.pass q3 g3
  have hL3 := hS.le
  refine mv_aload_n (pc := 6) B d_Book_block_6 rfl 0 rfl ?_
  refine mv_dup (pc := 7) B d_Book_block_7 rfl ?_
  refine mv_getI (pc := 8) (ci := 12) (C := R_Book) (T := F_Book) (N := 65) B 8 rfl rfl (by decide) i_Book (B.2.2.2.1 _ k_1851) rfl d_Book_block_8 ?_
  refine mv_iconst (pc := 11) (v := 1) B d_Book_block_11 (by decide) ?_
  refine mv_iadd (pc := 12) B d_Book_block_12 ?_
  refine mv_putI (pc := 13) (ci := 12) (C := R_Book) (T := F_Book) (N := 65) B 8 rfl rfl (by decide) i_Book t_Book_ok n_Book (B.2.2.2.1 _ k_1851) rfl rfl rfl rfl d_Book_block_13 ?_
  refine mv_gen (fun S16 eS16 => ?_)
  have hS := hS.dep (hS.P.up (by omega))
  rw [← eS16] at hS
  clear eS16
  have hq9 := hS.SS.2.1
  have lp : ∀ (nn : Nat) (S : mv_H) (q8 : Nat) (e8 : Nat) (n8 : Nat) (t8 : Nat) (u8 : Nat) (v8 : Int32) (w8 : Int32) (hS : YT 74 len th σ q ev n a1 S q8 e8 (d + 1) n8 t8 u8 [(n, n8, fun τ => BI 74 th τ n n8 f (v8.toInt) (w8.toInt))]) (hw8 : w8.toInt = -1 ∨ (n ≤ w8.toInt ∧ w8.toInt < n8)) (ht8 : t3 ≤ t8 ∧ n8 + 1 + a1 ≤ n + t8) (hq9 : (mv_i S16 74 35).toInt = q), len + 1 - t8 < nn → mv_V p l e ({ frames := 14 * f + 24, cells := 0, slots := 0, locals := 500 * f + 900 }) s m ([.ref (al 74)] : List Value).toArray below meth c (mg dA D al ext) 5 0 0 (mv_Q (mg dA D al ext) below s 0 0 (mv_Ui (BO 74 len th q ev d n a1 (f) σ) ("MachineLoomModel$Book$Wrong", al 107) (BF 74 σ))) S 25 [(3, .int w8), (2, .int v8), (1, .int (mv_i S16 74 35)), (0, .ref (al 74))] [] := by
    intro nn
    induction nn with
    | zero => intro S q8 e8 n8 t8 u8 v8 w8 hS hw8 ht8 hq9 hm; exact absurd hm (Nat.not_lt_zero _)
    | succ nn ih =>
      intro S q8 e8 n8 t8 u8 v8 w8 hS hw8 ht8 hq9 hm
      have hL8 := hS.le
      refine mv_aload_n (pc := 25) B d_Book_block_25 rfl 3 rfl ?_
      refine mv_getI (pc := 26) (ci := 12) (C := R_Book) (T := F_Book) (N := 65) B 4 rfl rfl (by decide) i_Book (B.2.2.2.1 _ k_1847) rfl d_Book_block_26 ?_
      refine mv_bipush (pc := 29) (v := 125) B d_Book_block_29 (by decide) ?_
      refine mv_icmp_eq (pc := 31) (tgt := 64) B d_Book_block_31 rfl (fun h31 => ?_) (fun h31 => ?_)
      · skip
        refine mv_aload_n (pc := 64) B d_Book_block_64 rfl 3 rfl ?_
        refine mv_bipush (pc := 65) (v := 125) B d_Book_block_65 (by decide) ?_
        refine mv_callVUv (pc := 67) (n := 1) (ci := 12) (C := R_Book) B (mK_ok sk sv) hNs rfl rfl (c_Book_need_x l hi _ _ len _ _ hS.P.1) rfl (ma_goodc kc_Book_need) (B.2.2.2.1 _ k_2177) (B.2.2.2.1 _ k_2179) (B.2.2.2.1 _ ks_91) (B.2.2.2.1 _ k_13) ⟨by decide +kernel, by decide +kernel, by decide +kernel⟩ rfl d_Book_block_67 rfl (Nat.le_of_ble_eq_true rfl) ⟨by first | decide | (dsimp only; omega), by first | decide | (dsimp only; omega)⟩ ⟨Nat.le_refl _, Nat.le_refl _⟩ ⟨Nat.le_refl _, Nat.le_refl _⟩ (mv_noH hno _) (fun τ9 g9 => Or.inr ⟨rfl, hS.1.2.1.bf.tr g9.bf⟩) (fun σ67 h67 => ?_)
        have hL67a := hS.le
        obtain ⟨k67, d67, t67, u67, q67, g67⟩ := h67
        have w67 := hS.P.w (by rw [k67]; decide)
        rw [hS.P.2.1] at d67
        have hS := hS.pass q67 g67
        have hL67 := hS.le
        refine mv_aload_n (pc := 70) B d_Book_block_70 rfl 3 rfl ?_
        refine mv_dup (pc := 71) B d_Book_block_71 rfl ?_
        refine mv_getI (pc := 72) (ci := 12) (C := R_Book) (T := F_Book) (N := 65) B 8 rfl rfl (by decide) i_Book (B.2.2.2.1 _ k_1851) rfl d_Book_block_72 ?_
        refine mv_iconst (pc := 75) (v := 1) B d_Book_block_75 (by decide) ?_
        refine mv_isub (pc := 76) B d_Book_block_76 ?_
        refine mv_putI (pc := 77) (ci := 12) (C := R_Book) (T := F_Book) (N := 65) B 8 rfl rfl (by decide) i_Book t_Book_ok n_Book (B.2.2.2.1 _ k_1851) rfl rfl rfl rfl d_Book_block_77 ?_
        refine mv_gen (fun S80 eS80 => ?_)
        have hS := hS.dep hS.P.dn
        rw [← eS80] at hS
        clear eS80
        refine mv_aload_n (pc := 80) B d_Book_block_80 rfl 3 rfl ?_
        refine mv_iload_n (pc := 81) B d_Book_block_81 rfl 2 rfl ?_
        refine mv_putI (pc := 82) (ci := 12) (C := R_Book) (T := F_Book) (N := 65) B 35 rfl rfl (by decide) i_Book t_Book_ok n_Book (B.2.2.2.1 _ k_1881) rfl rfl rfl rfl d_Book_block_82 ?_
        refine mv_gen (fun S85 eS85 => ?_)
        have hS := hS.back hq9
        rw [← eS85] at hS
        have hL85 := hS.le
        clear eS85
        refine mv_iload_n (pc := 85) B d_Book_block_85 rfl 1 rfl ?_
        exact mv_iret (pc := 86) B hr rfl d_Book_block_86 (Nat.le_refl _) (Nat.le_refl _) (Or.inl ⟨_, rfl, _, _, _, _, hS.1, by omega, fun zz => (hS.2.at 0 rfl zz).br⟩)
      · skip
        refine mv_aload_n (pc := 34) B d_Book_block_34 rfl 3 rfl ?_
        refine mv_callVUi (pc := 35) (n := 0) (ci := 12) (C := R_Book) B (mK_ok sk sv) hNs rfl rfl (ihS (f - 1) (by omega) _ len th _ _ _ _ _ _ (by omega) hS.SS) rfl (ma_goodc kc_Book_statement) (B.2.2.2.1 _ k_2236) (B.2.2.2.1 _ k_2238) (B.2.2.2.1 _ ks_102) (B.2.2.2.1 _ k_13) ⟨by decide +kernel, by decide +kernel, by decide +kernel⟩ rfl d_Book_block_35 rfl (Nat.le_of_ble_eq_true rfl) ⟨by first | decide | (dsimp only; omega), by first | decide | (dsimp only; omega)⟩ ⟨Nat.le_refl _, Nat.le_refl _⟩ ⟨Nat.le_refl _, Nat.le_refl _⟩ (mv_noH hno _) (fun τ9 g9 => Or.inr ⟨rfl, hS.1.2.1.bf.tr g9⟩) (fun v35 σ35 h35 => ?_)
        have hL35a := hS.le
        obtain ⟨q35, e35, n35, t35, u35, k35, s35, m35, v35e, g35, j35, x35⟩ := h35
        have e9 : f - 1 + 1 = f := by omega
        rw [e9] at x35
        have y35 := s35.2.2.2.2.2.2.1
        have hS := hS.sub s35 Stb.sr x35
        have hL35 := hS.le
        refine mv_istore (pc := 38) B d_Book_block_38 (by decide) rfl ?_
        refine mv_iload_n (pc := 40) B d_Book_block_40 rfl 1 rfl ?_
        refine mv_if_ge (pc := 41) (tgt := 50) B d_Book_block_41 rfl (fun h41 => ?_) (fun h41 => ?_)
        · skip
          have hw9 : 0 ≤ w8.toInt := Int32.le_iff_toInt_le.mp h41
          refine mv_aload_n (pc := 50) B d_Book_block_50 rfl 4 rfl ?_
          refine mv_getR (pc := 51) (ci := 12) (C := R_Book) (T := F_Book) (N := 65) B 44 rfl rfl (by decide) i_Book (B.2.2.2.1 _ k_1893) rfl (hS.R.1 _ 44 _ rfl) d_Book_block_51 ?_
          refine mv_iload_n (pc := 54) B d_Book_block_54 rfl 1 rfl ?_
          refine mv_iload (pc := 55) B d_Book_block_55 0 rfl ?_
          refine mv_iast (pc := 57) B rfl (i32_in (by omega) (by omega)) d_Book_block_57 ?_
          refine mv_iload (pc := 58) B d_Book_block_58 0 rfl ?_
          refine mv_istore_n (pc := 60) B d_Book_block_60 rfl (by decide) rfl ?_
          refine mv_goto (pc := 61) (tgt := 25) B d_Book_block_61 rfl ?_
          refine mv_lpick [0, 2, 3, 4] rfl ?_
          have hc9 := i32_cl (x := w8) hw9
          have hS := hS.row (lo := n) (o := 96) (k := w8.toNatClampNeg) (v := v35) (P := fun τ => BI 74 th τ n n35 f (v8.toInt) (v35.toInt)) (by omega) (by omega) Stb.bi (fun zz => by
            have y1 := hS.2.at 1 rfl zz
            have y2 := hS.2.at 0 rfl zz
            rw [← hc9] at y1
            rw [v35e]
            exact BI.next y1 y2 v35e)
          exact ih _ _ _ _ _ _ _ _ hS (by omega) (by omega) hq9 (by omega)
        · skip
          have hw9 : ¬ 0 ≤ w8.toInt := fun z => h41 (Int32.le_iff_toInt_le.mpr z)
          refine mv_iload (pc := 44) B d_Book_block_44 0 rfl ?_
          refine mv_istore_n (pc := 46) B d_Book_block_46 rfl (by decide) rfl ?_
          refine mv_goto (pc := 47) (tgt := 58) B d_Book_block_47 rfl ?_
          refine mv_iload (pc := 58) B d_Book_block_58 1 rfl ?_
          refine mv_istore_n (pc := 60) B d_Book_block_60 rfl (by decide) rfl ?_
          refine mv_goto (pc := 61) (tgt := 25) B d_Book_block_61 rfl ?_
          refine mv_lpick [0, 1, 3, 4] rfl ?_
          have hB9 : (mv_i σ35 74 38).toInt ≤ 0 → BI 74 th σ35 n n35 f v35.toInt v35.toInt := fun zz => by
            have y1 := hS.2.at 1 rfl zz
            have y2 := hS.2.at 0 rfl zz
            rcases y1 with ⟨-, -, y1⟩ | ⟨-, t, u, -, y1, -⟩
            · subst y1
              rw [v35e]
              exact BI.one y2
            · omega
          have hS := hS.w (lo := n) (P := fun _ => True) (P' := fun τ => BI 74 th τ n n35 f (v35.toInt) (v35.toInt)) (Nat.le_refl _) Stb.bi hB9
          exact ih _ _ _ _ _ _ _ _ hS (by omega) (by omega) hq9 (by omega)
  refine mv_aload_n (pc := 16) B d_Book_block_16 rfl 0 rfl ?_
  refine mv_getI (pc := 17) (ci := 12) (C := R_Book) (T := F_Book) (N := 65) B 35 rfl rfl (by decide) i_Book (B.2.2.2.1 _ k_1881) rfl d_Book_block_17 ?_
  refine mv_istore_n (pc := 20) B d_Book_block_20 rfl (by decide) rfl ?_
  refine mv_iconst (pc := 21) (v := -1) B d_Book_block_21 (by decide) ?_
  refine mv_istore_n (pc := 22) B d_Book_block_22 rfl (by decide) rfl ?_
  refine mv_iconst (pc := 23) (v := -1) B d_Book_block_23 (by decide) ?_
  refine mv_istore_n (pc := 24) B d_Book_block_24 rfl (by decide) rfl ?_
  refine mv_lpick [0, 1, 2, 3] rfl ?_
  exact lp _ _ _ _ _ _ _ _ _ (hS.w (lo := n) (P := fun _ => True) (P' := fun τ => BI 74 th τ n n f ((-1 : Int32).toInt) ((-1 : Int32).toInt)) (Nat.le_refl _) Stb.bi (fun _ => Or.inl ⟨rfl, rfl, rfl⟩)) (Or.inl rfl) (by omega) hq9 (Nat.lt_succ_self _)
set_option maxHeartbeats 4000000 in
set_option maxRecDepth 100000 in
theorem c_Book_block_y (l : Launch) {dA : FieldType → ClassId} {D : va_G} {al : Nat → Nat} {ext : mv_Sh} {sk sv : Nat → Nat} (hi : mv_inj (mg dA D al ext)) (σ : mv_H) (f len th q ev d n a1 a2 : Nat) (hf : d + f = 61) (hP : SS 108 len th q ev d n a1 a2 σ) (ihS : ∀ g, g + 1 = f → YSt l dA D al ext sk sv 108 g) : mv_C l y_Book_block (Cond.code y_Book_block b_Book_block 5 (Option.some Jvm.ClassFile.FieldType.int) :: ma) ({ frames := 14 * f + 24, cells := 0, slots := 0, locals := 500 * f + 900 }) (mg dA D al ext) (mK sk sv) [.ref (al 108)] σ (mv_Ui (BO 108 len th q ev d n a1 (f) σ) ("MachineLoomModel$Book$Wrong", al 141) (BF 108 σ)) := by
  refine mv_C.ofV (cc := b_Book_block) (nL := 5) (ret := (Option.some Jvm.ClassFile.FieldType.int)) (by decide +kernel) rfl hi (Nat.le_of_ble_eq_true rfl) ?_
  intro p e s m below meth c B hNs hr hnm hno
  have hS := YT.rf hP
  have hn0 := hP.1.le.1
  have hL00 := hS.le
  refine mv_aload_n (pc := 0) B d_Book_block_0 rfl 0 rfl ?_
  refine mv_bipush (pc := 1) (v := 123) B d_Book_block_1 (by decide) ?_
  refine mv_callVUv (pc := 3) (n := 1) (ci := 12) (C := R_Book) B (mK_ok sk sv) hNs rfl rfl (c_Book_need_y l hi _ _ len _ _ hS.P.1) rfl (ma_goodc kc_Book_need) (B.2.2.2.1 _ k_2177) (B.2.2.2.1 _ k_2179) (B.2.2.2.1 _ ks_91) (B.2.2.2.1 _ k_13) ⟨by decide +kernel, by decide +kernel, by decide +kernel⟩ rfl d_Book_block_3 rfl (Nat.le_of_ble_eq_true rfl) ⟨by first | decide | (dsimp only; omega), by first | decide | (dsimp only; omega)⟩ ⟨Nat.le_refl _, Nat.le_refl _⟩ ⟨Nat.le_refl _, Nat.le_refl _⟩ (mv_noH hno _) (fun τ9 g9 => Or.inr ⟨rfl, hS.1.2.1.bf.tr g9.bf⟩) (fun σ3 h3 => ?_)
  obtain ⟨k3, d3, t3, u3, q3, g3⟩ := h3
  have w3 := hS.P.w (by rw [k3]; decide)
  rw [hS.P.2.1] at d3
  have hS := hS.pass q3 g3
  have hL3 := hS.le
  refine mv_aload_n (pc := 6) B d_Book_block_6 rfl 0 rfl ?_
  refine mv_dup (pc := 7) B d_Book_block_7 rfl ?_
  refine mv_getI (pc := 8) (ci := 12) (C := R_Book) (T := F_Book) (N := 65) B 8 rfl rfl (by decide) i_Book (B.2.2.2.1 _ k_1851) rfl d_Book_block_8 ?_
  refine mv_iconst (pc := 11) (v := 1) B d_Book_block_11 (by decide) ?_
  refine mv_iadd (pc := 12) B d_Book_block_12 ?_
  refine mv_putI (pc := 13) (ci := 12) (C := R_Book) (T := F_Book) (N := 65) B 8 rfl rfl (by decide) i_Book t_Book_ok n_Book (B.2.2.2.1 _ k_1851) rfl rfl rfl rfl d_Book_block_13 ?_
  refine mv_gen (fun S16 eS16 => ?_)
  have hS := hS.dep (hS.P.up (by omega))
  rw [← eS16] at hS
  clear eS16
  have hq9 := hS.SS.2.1
  have lp : ∀ (nn : Nat) (S : mv_H) (q8 : Nat) (e8 : Nat) (n8 : Nat) (t8 : Nat) (u8 : Nat) (v8 : Int32) (w8 : Int32) (hS : YT 108 len th σ q ev n a1 S q8 e8 (d + 1) n8 t8 u8 [(n, n8, fun τ => BI 108 th τ n n8 f (v8.toInt) (w8.toInt))]) (hw8 : w8.toInt = -1 ∨ (n ≤ w8.toInt ∧ w8.toInt < n8)) (ht8 : t3 ≤ t8 ∧ n8 + 1 + a1 ≤ n + t8) (hq9 : (mv_i S16 108 35).toInt = q), len + 1 - t8 < nn → mv_V p l e ({ frames := 14 * f + 24, cells := 0, slots := 0, locals := 500 * f + 900 }) s m ([.ref (al 108)] : List Value).toArray below meth c (mg dA D al ext) 5 0 0 (mv_Q (mg dA D al ext) below s 0 0 (mv_Ui (BO 108 len th q ev d n a1 (f) σ) ("MachineLoomModel$Book$Wrong", al 141) (BF 108 σ))) S 25 [(3, .int w8), (2, .int v8), (1, .int (mv_i S16 108 35)), (0, .ref (al 108))] [] := by
    intro nn
    induction nn with
    | zero => intro S q8 e8 n8 t8 u8 v8 w8 hS hw8 ht8 hq9 hm; exact absurd hm (Nat.not_lt_zero _)
    | succ nn ih =>
      intro S q8 e8 n8 t8 u8 v8 w8 hS hw8 ht8 hq9 hm
      have hL8 := hS.le
      refine mv_aload_n (pc := 25) B d_Book_block_25 rfl 3 rfl ?_
      refine mv_getI (pc := 26) (ci := 12) (C := R_Book) (T := F_Book) (N := 65) B 4 rfl rfl (by decide) i_Book (B.2.2.2.1 _ k_1847) rfl d_Book_block_26 ?_
      refine mv_bipush (pc := 29) (v := 125) B d_Book_block_29 (by decide) ?_
      refine mv_icmp_eq (pc := 31) (tgt := 64) B d_Book_block_31 rfl (fun h31 => ?_) (fun h31 => ?_)
      · skip
        refine mv_aload_n (pc := 64) B d_Book_block_64 rfl 3 rfl ?_
        refine mv_bipush (pc := 65) (v := 125) B d_Book_block_65 (by decide) ?_
        refine mv_callVUv (pc := 67) (n := 1) (ci := 12) (C := R_Book) B (mK_ok sk sv) hNs rfl rfl (c_Book_need_y l hi _ _ len _ _ hS.P.1) rfl (ma_goodc kc_Book_need) (B.2.2.2.1 _ k_2177) (B.2.2.2.1 _ k_2179) (B.2.2.2.1 _ ks_91) (B.2.2.2.1 _ k_13) ⟨by decide +kernel, by decide +kernel, by decide +kernel⟩ rfl d_Book_block_67 rfl (Nat.le_of_ble_eq_true rfl) ⟨by first | decide | (dsimp only; omega), by first | decide | (dsimp only; omega)⟩ ⟨Nat.le_refl _, Nat.le_refl _⟩ ⟨Nat.le_refl _, Nat.le_refl _⟩ (mv_noH hno _) (fun τ9 g9 => Or.inr ⟨rfl, hS.1.2.1.bf.tr g9.bf⟩) (fun σ67 h67 => ?_)
        have hL67a := hS.le
        obtain ⟨k67, d67, t67, u67, q67, g67⟩ := h67
        have w67 := hS.P.w (by rw [k67]; decide)
        rw [hS.P.2.1] at d67
        have hS := hS.pass q67 g67
        have hL67 := hS.le
        refine mv_aload_n (pc := 70) B d_Book_block_70 rfl 3 rfl ?_
        refine mv_dup (pc := 71) B d_Book_block_71 rfl ?_
        refine mv_getI (pc := 72) (ci := 12) (C := R_Book) (T := F_Book) (N := 65) B 8 rfl rfl (by decide) i_Book (B.2.2.2.1 _ k_1851) rfl d_Book_block_72 ?_
        refine mv_iconst (pc := 75) (v := 1) B d_Book_block_75 (by decide) ?_
        refine mv_isub (pc := 76) B d_Book_block_76 ?_
        refine mv_putI (pc := 77) (ci := 12) (C := R_Book) (T := F_Book) (N := 65) B 8 rfl rfl (by decide) i_Book t_Book_ok n_Book (B.2.2.2.1 _ k_1851) rfl rfl rfl rfl d_Book_block_77 ?_
        refine mv_gen (fun S80 eS80 => ?_)
        have hS := hS.dep hS.P.dn
        rw [← eS80] at hS
        clear eS80
        refine mv_aload_n (pc := 80) B d_Book_block_80 rfl 3 rfl ?_
        refine mv_iload_n (pc := 81) B d_Book_block_81 rfl 2 rfl ?_
        refine mv_putI (pc := 82) (ci := 12) (C := R_Book) (T := F_Book) (N := 65) B 35 rfl rfl (by decide) i_Book t_Book_ok n_Book (B.2.2.2.1 _ k_1881) rfl rfl rfl rfl d_Book_block_82 ?_
        refine mv_gen (fun S85 eS85 => ?_)
        have hS := hS.back hq9
        rw [← eS85] at hS
        have hL85 := hS.le
        clear eS85
        refine mv_iload_n (pc := 85) B d_Book_block_85 rfl 1 rfl ?_
        exact mv_iret (pc := 86) B hr rfl d_Book_block_86 (Nat.le_refl _) (Nat.le_refl _) (Or.inl ⟨_, rfl, _, _, _, _, hS.1, by omega, fun zz => (hS.2.at 0 rfl zz).br⟩)
      · skip
        refine mv_aload_n (pc := 34) B d_Book_block_34 rfl 3 rfl ?_
        refine mv_callVUi (pc := 35) (n := 0) (ci := 12) (C := R_Book) B (mK_ok sk sv) hNs rfl rfl (ihS (f - 1) (by omega) _ len th _ _ _ _ _ _ (by omega) hS.SS) rfl (ma_goodc kc_Book_statement) (B.2.2.2.1 _ k_2236) (B.2.2.2.1 _ k_2238) (B.2.2.2.1 _ ks_102) (B.2.2.2.1 _ k_13) ⟨by decide +kernel, by decide +kernel, by decide +kernel⟩ rfl d_Book_block_35 rfl (Nat.le_of_ble_eq_true rfl) ⟨by first | decide | (dsimp only; omega), by first | decide | (dsimp only; omega)⟩ ⟨Nat.le_refl _, Nat.le_refl _⟩ ⟨Nat.le_refl _, Nat.le_refl _⟩ (mv_noH hno _) (fun τ9 g9 => Or.inr ⟨rfl, hS.1.2.1.bf.tr g9⟩) (fun v35 σ35 h35 => ?_)
        have hL35a := hS.le
        obtain ⟨q35, e35, n35, t35, u35, k35, s35, m35, v35e, g35, j35, x35⟩ := h35
        have e9 : f - 1 + 1 = f := by omega
        rw [e9] at x35
        have y35 := s35.2.2.2.2.2.2.1
        have hS := hS.sub s35 Stb.sr x35
        have hL35 := hS.le
        refine mv_istore (pc := 38) B d_Book_block_38 (by decide) rfl ?_
        refine mv_iload_n (pc := 40) B d_Book_block_40 rfl 1 rfl ?_
        refine mv_if_ge (pc := 41) (tgt := 50) B d_Book_block_41 rfl (fun h41 => ?_) (fun h41 => ?_)
        · skip
          have hw9 : 0 ≤ w8.toInt := Int32.le_iff_toInt_le.mp h41
          refine mv_aload_n (pc := 50) B d_Book_block_50 rfl 4 rfl ?_
          refine mv_getR (pc := 51) (ci := 12) (C := R_Book) (T := F_Book) (N := 65) B 44 rfl rfl (by decide) i_Book (B.2.2.2.1 _ k_1893) rfl (hS.R.1 _ 44 _ rfl) d_Book_block_51 ?_
          refine mv_iload_n (pc := 54) B d_Book_block_54 rfl 1 rfl ?_
          refine mv_iload (pc := 55) B d_Book_block_55 0 rfl ?_
          refine mv_iast (pc := 57) B rfl (i32_in (by omega) (by omega)) d_Book_block_57 ?_
          refine mv_iload (pc := 58) B d_Book_block_58 0 rfl ?_
          refine mv_istore_n (pc := 60) B d_Book_block_60 rfl (by decide) rfl ?_
          refine mv_goto (pc := 61) (tgt := 25) B d_Book_block_61 rfl ?_
          refine mv_lpick [0, 2, 3, 4] rfl ?_
          have hc9 := i32_cl (x := w8) hw9
          have hS := hS.row (lo := n) (o := 130) (k := w8.toNatClampNeg) (v := v35) (P := fun τ => BI 108 th τ n n35 f (v8.toInt) (v35.toInt)) (by omega) (by omega) Stb.bi (fun zz => by
            have y1 := hS.2.at 1 rfl zz
            have y2 := hS.2.at 0 rfl zz
            rw [← hc9] at y1
            rw [v35e]
            exact BI.next y1 y2 v35e)
          exact ih _ _ _ _ _ _ _ _ hS (by omega) (by omega) hq9 (by omega)
        · skip
          have hw9 : ¬ 0 ≤ w8.toInt := fun z => h41 (Int32.le_iff_toInt_le.mpr z)
          refine mv_iload (pc := 44) B d_Book_block_44 0 rfl ?_
          refine mv_istore_n (pc := 46) B d_Book_block_46 rfl (by decide) rfl ?_
          refine mv_goto (pc := 47) (tgt := 58) B d_Book_block_47 rfl ?_
          refine mv_iload (pc := 58) B d_Book_block_58 1 rfl ?_
          refine mv_istore_n (pc := 60) B d_Book_block_60 rfl (by decide) rfl ?_
          refine mv_goto (pc := 61) (tgt := 25) B d_Book_block_61 rfl ?_
          refine mv_lpick [0, 1, 3, 4] rfl ?_
          have hB9 : (mv_i σ35 108 38).toInt ≤ 0 → BI 108 th σ35 n n35 f v35.toInt v35.toInt := fun zz => by
            have y1 := hS.2.at 1 rfl zz
            have y2 := hS.2.at 0 rfl zz
            rcases y1 with ⟨-, -, y1⟩ | ⟨-, t, u, -, y1, -⟩
            · subst y1
              rw [v35e]
              exact BI.one y2
            · omega
          have hS := hS.w (lo := n) (P := fun _ => True) (P' := fun τ => BI 108 th τ n n35 f (v35.toInt) (v35.toInt)) (Nat.le_refl _) Stb.bi hB9
          exact ih _ _ _ _ _ _ _ _ hS (by omega) (by omega) hq9 (by omega)
  refine mv_aload_n (pc := 16) B d_Book_block_16 rfl 0 rfl ?_
  refine mv_getI (pc := 17) (ci := 12) (C := R_Book) (T := F_Book) (N := 65) B 35 rfl rfl (by decide) i_Book (B.2.2.2.1 _ k_1881) rfl d_Book_block_17 ?_
  refine mv_istore_n (pc := 20) B d_Book_block_20 rfl (by decide) rfl ?_
  refine mv_iconst (pc := 21) (v := -1) B d_Book_block_21 (by decide) ?_
  refine mv_istore_n (pc := 22) B d_Book_block_22 rfl (by decide) rfl ?_
  refine mv_iconst (pc := 23) (v := -1) B d_Book_block_23 (by decide) ?_
  refine mv_istore_n (pc := 24) B d_Book_block_24 rfl (by decide) rfl ?_
  refine mv_lpick [0, 1, 2, 3] rfl ?_
  exact lp _ _ _ _ _ _ _ _ _ (hS.w (lo := n) (P := fun _ => True) (P' := fun τ => BI 108 th τ n n f ((-1 : Int32).toInt) ((-1 : Int32).toInt)) (Nat.le_refl _) Stb.bi (fun _ => Or.inl ⟨rfl, rfl, rfl⟩)) (Or.inl rfl) (by omega) hq9 (Nat.lt_succ_self _)
