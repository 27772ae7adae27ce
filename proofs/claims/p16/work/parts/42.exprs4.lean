/-! Exprs: operand, part, choose, otherwise, join, cell, widen -/
def y_Exprs_operand : MethodName := ⟨"MachineLoom$Exprs", "operand", "()Z"⟩
abbrev b_Exprs_operand : ByteArray := prog_3_method_7_code
theorem kc_Exprs_operand : Cond.code y_Exprs_operand b_Exprs_operand 2 (Option.some Jvm.ClassFile.FieldType.boolean) ∈ ma := ma_of (tb_6 _ (List.mem_of_getElem? (i := 213) rfl)) rfl
theorem k_1414 : (Jvm.Cond.methodLink "MachineLoom$Exprs" (57 : Nat) ({ cls := "MachineLoom$Tokens", name := "kind", desc := "()I" } : Jvm.MethodName)) ∈ ma := ma_of (tb_6 _ (List.mem_of_getElem? (i := 214) rfl)) rfl
theorem k_1441 : (Jvm.Cond.methodLink "MachineLoom$Exprs" (71 : Nat) ({ cls := "MachineLoom$Exprs", name := "name", desc := "()Z" } : Jvm.MethodName)) ∈ ma := ma_of (tb_7 _ (List.mem_of_getElem? (i := 1) rfl)) rfl
theorem k_1443 : (Jvm.Cond.instanceMethod ({ cls := "MachineLoom$Exprs", name := "name", desc := "()Z" } : Jvm.MethodName)) ∈ ma := ma_of (tb_7 _ (List.mem_of_getElem? (i := 3) rfl)) rfl
theorem ks_52 : Cond.selects "MachineLoom$Exprs" ⟨"MachineLoom$Exprs", "name", "()Z"⟩ ⟨"MachineLoom$Exprs", "name", "()Z"⟩ ∈ ma := ma_sel 52 rfl rfl
theorem k_1420 : (Jvm.Cond.methodLink "MachineLoom$Exprs" (68 : Nat) ({ cls := "MachineLoom$Exprs", name := "literal", desc := "()V" } : Jvm.MethodName)) ∈ ma := ma_of (tb_6 _ (List.mem_of_getElem? (i := 220) rfl)) rfl
theorem k_1422 : (Jvm.Cond.instanceMethod ({ cls := "MachineLoom$Exprs", name := "literal", desc := "()V" } : Jvm.MethodName)) ∈ ma := ma_of (tb_6 _ (List.mem_of_getElem? (i := 222) rfl)) rfl
theorem ks_49 : Cond.selects "MachineLoom$Exprs" ⟨"MachineLoom$Exprs", "literal", "()V"⟩ ⟨"MachineLoom$Exprs", "literal", "()V"⟩ ∈ ma := ma_sel 49 rfl rfl
theorem k_1455 : (Jvm.Cond.methodLink "MachineLoom$Exprs" (75 : Nat) ({ cls := "MachineLoom$Exprs", name := "call", desc := "(I)V" } : Jvm.MethodName)) ∈ ma := ma_of (tb_7 _ (List.mem_of_getElem? (i := 15) rfl)) rfl
theorem k_1457 : (Jvm.Cond.instanceMethod ({ cls := "MachineLoom$Exprs", name := "call", desc := "(I)V" } : Jvm.MethodName)) ∈ ma := ma_of (tb_7 _ (List.mem_of_getElem? (i := 17) rfl)) rfl
theorem ks_53 : Cond.selects "MachineLoom$Exprs" ⟨"MachineLoom$Exprs", "call", "(I)V"⟩ ⟨"MachineLoom$Exprs", "call", "(I)V"⟩ ∈ ma := ma_sel 53 rfl rfl
theorem d_Exprs_operand_0 : decode b_Exprs_operand 0 = .ok (.aload_n 0, 1) := by decide +kernel
theorem d_Exprs_operand_1 : decode b_Exprs_operand 1 = .ok (.getfield 27, 3) := by decide +kernel
theorem d_Exprs_operand_4 : decode b_Exprs_operand 4 = .ok (.invokevirtual 57, 3) := by decide +kernel
theorem d_Exprs_operand_7 : decode b_Exprs_operand 7 = .ok (.istore_n 1, 1) := by decide +kernel
theorem d_Exprs_operand_8 : decode b_Exprs_operand 8 = .ok (.iload_n 1, 1) := by decide +kernel
theorem d_Exprs_operand_9 : decode b_Exprs_operand 9 = .ok (.lookupswitch (144) #[(3, 139), (4, 133), (33, 101), (40, 118), (45, 67), (123, 118), (126, 84)], 67) := by decide +kernel
theorem d_Exprs_operand_76 : decode b_Exprs_operand 76 = .ok (.aload_n 0, 1) := by decide +kernel
theorem d_Exprs_operand_77 : decode b_Exprs_operand 77 = .ok (.sipush 305, 3) := by decide +kernel
theorem d_Exprs_operand_80 : decode b_Exprs_operand 80 = .ok (.aload_n 0, 1) := by decide +kernel
theorem d_Exprs_operand_81 : decode b_Exprs_operand 81 = .ok (.getfield 27, 3) := by decide +kernel
theorem d_Exprs_operand_84 : decode b_Exprs_operand 84 = .ok (.iload_n 1, 1) := by decide +kernel
theorem d_Exprs_operand_85 : decode b_Exprs_operand 85 = .ok (.invokevirtual 61, 3) := by decide +kernel
theorem d_Exprs_operand_88 : decode b_Exprs_operand 88 = .ok (.invokevirtual 65, 3) := by decide +kernel
theorem d_Exprs_operand_91 : decode b_Exprs_operand 91 = .ok (.iconst 0, 1) := by decide +kernel
theorem d_Exprs_operand_92 : decode b_Exprs_operand 92 = .ok (.ireturn, 1) := by decide +kernel
theorem d_Exprs_operand_93 : decode b_Exprs_operand 93 = .ok (.aload_n 0, 1) := by decide +kernel
theorem d_Exprs_operand_94 : decode b_Exprs_operand 94 = .ok (.sipush 306, 3) := by decide +kernel
theorem d_Exprs_operand_97 : decode b_Exprs_operand 97 = .ok (.aload_n 0, 1) := by decide +kernel
theorem d_Exprs_operand_98 : decode b_Exprs_operand 98 = .ok (.getfield 27, 3) := by decide +kernel
theorem d_Exprs_operand_101 : decode b_Exprs_operand 101 = .ok (.iload_n 1, 1) := by decide +kernel
theorem d_Exprs_operand_102 : decode b_Exprs_operand 102 = .ok (.invokevirtual 61, 3) := by decide +kernel
theorem d_Exprs_operand_105 : decode b_Exprs_operand 105 = .ok (.invokevirtual 65, 3) := by decide +kernel
theorem d_Exprs_operand_108 : decode b_Exprs_operand 108 = .ok (.iconst 0, 1) := by decide +kernel
theorem d_Exprs_operand_109 : decode b_Exprs_operand 109 = .ok (.ireturn, 1) := by decide +kernel
theorem d_Exprs_operand_110 : decode b_Exprs_operand 110 = .ok (.aload_n 0, 1) := by decide +kernel
theorem d_Exprs_operand_111 : decode b_Exprs_operand 111 = .ok (.sipush 307, 3) := by decide +kernel
theorem d_Exprs_operand_114 : decode b_Exprs_operand 114 = .ok (.aload_n 0, 1) := by decide +kernel
theorem d_Exprs_operand_115 : decode b_Exprs_operand 115 = .ok (.getfield 27, 3) := by decide +kernel
theorem d_Exprs_operand_118 : decode b_Exprs_operand 118 = .ok (.iload_n 1, 1) := by decide +kernel
theorem d_Exprs_operand_119 : decode b_Exprs_operand 119 = .ok (.invokevirtual 61, 3) := by decide +kernel
theorem d_Exprs_operand_122 : decode b_Exprs_operand 122 = .ok (.invokevirtual 65, 3) := by decide +kernel
theorem d_Exprs_operand_125 : decode b_Exprs_operand 125 = .ok (.iconst 0, 1) := by decide +kernel
theorem d_Exprs_operand_126 : decode b_Exprs_operand 126 = .ok (.ireturn, 1) := by decide +kernel
theorem d_Exprs_operand_127 : decode b_Exprs_operand 127 = .ok (.aload_n 0, 1) := by decide +kernel
theorem d_Exprs_operand_128 : decode b_Exprs_operand 128 = .ok (.iload_n 1, 1) := by decide +kernel
theorem d_Exprs_operand_129 : decode b_Exprs_operand 129 = .ok (.aload_n 0, 1) := by decide +kernel
theorem d_Exprs_operand_130 : decode b_Exprs_operand 130 = .ok (.getfield 27, 3) := by decide +kernel
theorem d_Exprs_operand_133 : decode b_Exprs_operand 133 = .ok (.iload_n 1, 1) := by decide +kernel
theorem d_Exprs_operand_134 : decode b_Exprs_operand 134 = .ok (.invokevirtual 61, 3) := by decide +kernel
theorem d_Exprs_operand_137 : decode b_Exprs_operand 137 = .ok (.invokevirtual 65, 3) := by decide +kernel
theorem d_Exprs_operand_140 : decode b_Exprs_operand 140 = .ok (.iconst 0, 1) := by decide +kernel
theorem d_Exprs_operand_141 : decode b_Exprs_operand 141 = .ok (.ireturn, 1) := by decide +kernel
theorem d_Exprs_operand_142 : decode b_Exprs_operand 142 = .ok (.aload_n 0, 1) := by decide +kernel
theorem d_Exprs_operand_143 : decode b_Exprs_operand 143 = .ok (.invokevirtual 68, 3) := by decide +kernel
theorem d_Exprs_operand_146 : decode b_Exprs_operand 146 = .ok (.iconst 1, 1) := by decide +kernel
theorem d_Exprs_operand_147 : decode b_Exprs_operand 147 = .ok (.ireturn, 1) := by decide +kernel
theorem d_Exprs_operand_148 : decode b_Exprs_operand 148 = .ok (.aload_n 0, 1) := by decide +kernel
theorem d_Exprs_operand_149 : decode b_Exprs_operand 149 = .ok (.invokevirtual 71, 3) := by decide +kernel
theorem d_Exprs_operand_152 : decode b_Exprs_operand 152 = .ok (.ireturn, 1) := by decide +kernel
theorem d_Exprs_operand_153 : decode b_Exprs_operand 153 = .ok (.aload_n 0, 1) := by decide +kernel
theorem d_Exprs_operand_154 : decode b_Exprs_operand 154 = .ok (.iload_n 1, 1) := by decide +kernel
theorem d_Exprs_operand_155 : decode b_Exprs_operand 155 = .ok (.invokevirtual 75, 3) := by decide +kernel
theorem d_Exprs_operand_158 : decode b_Exprs_operand 158 = .ok (.iconst 0, 1) := by decide +kernel
theorem d_Exprs_operand_159 : decode b_Exprs_operand 159 = .ok (.ireturn, 1) := by decide +kernel
set_option maxHeartbeats 4000000 in
set_option maxRecDepth 100000 in
theorem c_Exprs_operand_a (l : Launch) {dA : FieldType → ClassId} {D : va_G} {al : Nat → Nat} {ext : mv_Sh} {sk sv : Nat → Nat} (hi : mv_inj (mg dA D al ext)) (σ : mv_H) {t len n z sz th sl e0 bs ns : Nat} {BL : (Nat → Nat) → Prop} {f0 : Nat → Int32} {g0 : Nat → Int64} {ms : List Mk} {s0 bd a : Nat} (hB0 : SB 32 σ t len n z sz th sl) (ht2 : t = 1 ∨ t = 144) (hX : XM 32 th e0 bs BL f0 g0 ns σ (ms) (sm wt ms + 0) (sm wr ms + 0) (s0)) (hI : TI σ sz bd ms s0 a) (hlen : len ≤ 32768) (hbs : bs ≤ 1) : mv_C l y_Exprs_operand (Cond.code y_Exprs_operand b_Exprs_operand 2 (Option.some Jvm.ClassFile.FieldType.boolean) :: ma) ({ frames := 4, cells := 0, slots := 0, locals := 90 }) (mg dA D al ext) (mK sk sv) [.ref (al 22)] σ (mv_Ri (fun v σ1 => RF 32 σ σ1 ∧ Mt (mv_a σ1 24) ∧ (v = 0 ∨ v = 1) ∧ (0 ≤ (mv_i σ1 3 9).toInt ∨ ∃ ms2 s2 a2, a < a2 ∧ XM 32 th e0 bs BL f0 g0 ns σ1 (ms2) (sm wt ms2 + v.toNatClampNeg) (sm wr ms2 + v.toNatClampNeg) (s2) ∧ TI σ1 sz bd ms2 s2 a2))) := by
  refine mv_C.ofV (cc := b_Exprs_operand) (nL := 2) (ret := (Option.some Jvm.ClassFile.FieldType.boolean)) (by decide +kernel) rfl hi (Nat.le_of_ble_eq_true rfl) ?_
  intro p e s m below meth c B hNs hr hnm hno
  have hP : PQ 32 := by unfold PQ; omega
  have hR := hB0.1
  have hF : RF 32 σ σ := RF0
  have hT : mv_i σ 3 = mv_i σ 3 := rfl
  have hsz := hB0.2.1.2.2.2.2.2
  have hsz2 := hB0.2.1.2.2.2.1
  have hI5 := hI.2.2.2.2.1
  have ha9 := hI.2.2.2.2.2.1
  have pl := hI.len hX
  have hm8 := hX.1.1
  have t7 := hI.1
  have hw9 := hI.2.1
  have t9 : (mv_i σ 3 9).toInt = (mv_i σ 3 9).toInt := rfl
  have hd8 := hI.2.2.1
  have hd9 := hI.2.2.2.1
  have hWm := hI.2.2.2.2.2.2
  have kp : mv_a σ 4 = mv_a σ 4 := rfl
  have t8 : (mv_i σ 3 8).toInt = (mv_i σ 3 8).toInt := rfl
  refine mv_aload_n (pc := 0) B d_Exprs_operand_0 rfl 0 rfl ?_
  refine mv_getR (pc := 1) (ci := 6) (C := R_Exprs) (T := F_Exprs) (N := 11) B 0 rfl rfl (by decide) i_Exprs (B.2.2.2.1 _ k_193) rfl (hR.1 _ 0 _ rfl) d_Exprs_operand_1 ?_
  refine mv_callVi (pc := 4) (n := 0) (ci := 2) (C := R_Tokens) B (mK_ok sk sv) hNs rfl rfl (c_Tokens_kind l hi _ hR.1 (i32_in (by omega) (by omega))) rfl (ma_goodc kc_Tokens_kind) (B.2.2.2.1 _ k_1414) (B.2.2.2.1 _ k_1271) (B.2.2.2.1 _ k_1272) (B.2.2.2.1 _ k_3) ⟨by decide +kernel, by decide +kernel, by decide +kernel⟩ rfl d_Exprs_operand_4 rfl (Nat.le_of_ble_eq_true rfl) ⟨by decide, by decide⟩ ⟨by decide, by decide⟩ ⟨by decide, by decide⟩ (mv_noH hno _) (fun v4 σ4 h4 => ?_)
  obtain ⟨e4, z4⟩ := h4
  have e4 := e4.symm
  subst e4
  have hk3 : mv_a σ 4 (mv_i σ 3 7).toNatClampNeg = v4 := (z4.trans (if_pos (lt0.mpr hw9))).symm
  clear z4
  refine mv_istore_n (pc := 7) B d_Exprs_operand_7 rfl (by decide) rfl ?_
  refine mv_iload_n (pc := 8) B d_Exprs_operand_8 rfl 0 rfl ?_
  refine mv_lsw (pc := 9) B d_Exprs_operand_9 (by decide) (by decide) ?_
  refine ⟨fun h9 => ?_, fun h9n3 => ?_⟩
  · skip
    have h9 : v4 = 3 := Int32.toInt_inj.mp (show v4.toInt = (3 : Int32).toInt from h9)
    subst h9
    refine mv_aload_n (pc := 148) B d_Exprs_operand_148 rfl 1 rfl ?_
    refine mv_callVi (pc := 149) (n := 0) (ci := 6) (C := R_Exprs) B (mK_ok sk sv) hNs rfl rfl (c_Exprs_name_a l hi _ hB0 ht2 hX hI hlen hbs hk3) rfl (ma_goodc kc_Exprs_name) (B.2.2.2.1 _ k_1441) (B.2.2.2.1 _ k_1443) (B.2.2.2.1 _ ks_52) (B.2.2.2.1 _ k_7) ⟨by decide +kernel, by decide +kernel, by decide +kernel⟩ rfl d_Exprs_operand_149 rfl (Nat.le_of_ble_eq_true rfl) ⟨by decide, by decide⟩ ⟨by decide, by decide⟩ ⟨by decide, by decide⟩ (mv_noH hno _) (fun v149 σ149 h149 => ?_)
    exact mv_iret (pc := 152) B hr (z_eq h149.2.2.1) d_Exprs_operand_152 (Nat.le_refl _) (Nat.le_refl _) ⟨_, rfl, h149⟩
  refine ⟨fun h9 => ?_, fun h9n4 => ?_⟩
  · skip
    have h9 : v4 = 4 := Int32.toInt_inj.mp (show v4.toInt = (4 : Int32).toInt from h9)
    subst h9
    refine mv_aload_n (pc := 142) B d_Exprs_operand_142 rfl 1 rfl ?_
    refine mv_callVv (pc := 143) (n := 0) (ci := 6) (C := R_Exprs) B (mK_ok sk sv) hNs rfl rfl (c_Exprs_literal_a l hi _ hB0 ht2 hX hI hlen hbs) rfl (ma_goodc kc_Exprs_literal) (B.2.2.2.1 _ k_1420) (B.2.2.2.1 _ k_1422) (B.2.2.2.1 _ ks_49) (B.2.2.2.1 _ k_7) ⟨by decide +kernel, by decide +kernel, by decide +kernel⟩ rfl d_Exprs_operand_143 rfl (Nat.le_of_ble_eq_true rfl) ⟨by decide, by decide⟩ ⟨by decide, by decide⟩ ⟨by decide, by decide⟩ (mv_noH hno _) (fun σ143 h143 => ?_)
    refine mv_iconst (pc := 146) (v := 1) B d_Exprs_operand_146 (by decide) ?_
    exact mv_iret (pc := 147) B hr rfl d_Exprs_operand_147 (Nat.le_refl _) (Nat.le_refl _) ⟨_, rfl, h143.1, h143.2.1, Or.inr rfl, h143.2.2⟩
  refine ⟨fun h9 => ?_, fun h9n33 => ?_⟩
  · skip
    have h9 : v4 = 33 := Int32.toInt_inj.mp (show v4.toInt = (33 : Int32).toInt from h9)
    subst h9
    refine mv_aload_n (pc := 110) B d_Exprs_operand_110 rfl 1 rfl ?_
    refine mv_sipush (pc := 111) (v := 307) B d_Exprs_operand_111 (by decide) ?_
    refine mv_aload_n (pc := 114) B d_Exprs_operand_114 rfl 1 rfl ?_
    refine mv_getR (pc := 115) (ci := 6) (C := R_Exprs) (T := F_Exprs) (N := 11) B 0 rfl rfl (by decide) i_Exprs (B.2.2.2.1 _ k_193) rfl (hR.1 _ 0 _ rfl) d_Exprs_operand_115 ?_
    refine mv_iload_n (pc := 118) B d_Exprs_operand_118 rfl 0 rfl ?_
    refine mv_callVi (pc := 119) (n := 1) (ci := 2) (C := R_Tokens) B (mK_ok sk sv) hNs rfl rfl (c_Tokens_openN l hi _ _ hR.1 (hB0.rf hF hP ht2).2.1 (by omega) (by omega) (by decide)) rfl (ma_goodc kc_Tokens_open) (B.2.2.2.1 _ k_1415) (B.2.2.2.1 _ k_1350) (B.2.2.2.1 _ k_1351) (B.2.2.2.1 _ k_3) ⟨by decide +kernel, by decide +kernel, by decide +kernel⟩ rfl d_Exprs_operand_119 rfl (Nat.le_of_ble_eq_true rfl) ⟨by decide, by decide⟩ ⟨by decide, by decide⟩ ⟨by decide, by decide⟩ (mv_noH hno _) (fun v119 σ119 h119 => ?_)
    obtain ⟨a119, w119, e119, r119⟩ := h119
    have q119 := r119.1
    have z119 := fun q => (r119.2.1 q).1
    have y119 := And.intro r119.2.2.2.1 r119.2.2.2.2.1
    subst e119
    refine mv_gen (fun S122 eS122 => ?_)
    have hR : Rw 32 (mv_r S122) := by rw [eS122]; exact hR
    have hF : RF 32 σ S122 := by rw [eS122]; exact hF.tk3 _ _ _
    have hX : XM 32 th e0 bs BL f0 g0 ns S122 (ms) (sm wt ms) (sm wr ms) (s0) := by rw [eS122]; exact hX.tk3 hP _ _ _
    have t7 : (mv_i S122 3 7).toInt = a119.toInt := by rw [eS122]; rfl
    have t8 : (mv_i S122 3 8).toInt = (mv_i σ 3 8).toInt + 1 := by rw [eS122]; first | exact t8 | exact (sub_one (by omega)).trans (by omega) | exact (i32_inc (by omega)).trans (by omega)
    have t9 : (mv_i S122 3 9).toInt = w119.toInt := by rw [eS122]; rfl
    have kS122 : mv_a S122 4 = mv_a σ 4 := by rw [eS122]; first | rfl | exact kp
    have kp := kS122
    clear eS122
    refine mv_callVv (pc := 122) (n := 2) (ci := 6) (C := R_Exprs) B (mK_ok sk sv) hNs rfl rfl (c_Exprs_mark l hi _ _ _ hR.1 (by have := hX.1.1; omega) (by have := hX.1.1; omega)) rfl (ma_goodc kc_Exprs_mark) (B.2.2.2.1 _ k_1416) (B.2.2.2.1 _ k_1418) (B.2.2.2.1 _ ks_48) (B.2.2.2.1 _ k_7) ⟨by decide +kernel, by decide +kernel, by decide +kernel⟩ rfl d_Exprs_operand_122 rfl (Nat.le_of_ble_eq_true rfl) ⟨by decide, by decide⟩ ⟨by decide, by decide⟩ ⟨by decide, by decide⟩ (mv_noH hno _) (fun σ122 h122 => ?_)
    subst h122
    refine mv_gen (fun S125 eS125 => ?_)
    have hR : Rw 32 (mv_r S125) := by rw [eS125]; exact hR
    have hF : RF 32 σ S125 := by rw [eS125]; exact hF.mark _ _
    have hX : XM 32 th e0 bs BL f0 g0 ns S125 (((307, 0) : Mk) :: ms) (sm wt ms) (sm wr ms) (s0) := by rw [eS125]; exact hX.mark hP (by omega) ⟨y119.1, by omega⟩ (by decide) (fun q => absurd q (by decide))
    have t7 := Eq.trans (congrArg Int32.toInt (show mv_i S125 3 7 = mv_i _ 3 7 by rw [eS125]; rfl)) t7
    have t8 := Eq.trans (congrArg Int32.toInt (show mv_i S125 3 8 = mv_i _ 3 8 by rw [eS125]; rfl)) t8
    have t9 := Eq.trans (congrArg Int32.toInt (show mv_i S125 3 9 = mv_i _ 3 9 by rw [eS125]; rfl)) t9
    have kp := Eq.trans (show mv_a S125 4 = mv_a _ 4 by rw [eS125]; rfl) kp
    have y1 : sm wt (((307, 0) : Mk) :: ms) = wt (307, 0) + sm wt ms := rfl
    have y2 : sm wr (((307, 0) : Mk) :: ms) = wr (307, 0) + sm wr ms := rfl
    have y3 : sm wd (((307, 0) : Mk) :: ms) = wd (307, 0) + sm wd ms := rfl
    have y4 : sm wc (((307, 0) : Mk) :: ms) = wc (307, 0) + sm wc ms := rfl
    have x1 := (show wt (307, 0) = 0 by decide)
    have x2 := (show wr (307, 0) = 0 by decide)
    have x3 := (show wd (307, 0) = 1 by decide)
    have x4 := (show wc (307, 0) = 1 by decide)
    have hend : 0 ≤ (mv_i S125 3 9).toInt ∨ ∃ ms2 s2 a2, a < a2 ∧ XM 32 th e0 bs BL f0 g0 ns S125 (ms2) (sm wt ms2 + (0 : Int32).toNatClampNeg) (sm wr ms2 + (0 : Int32).toNatClampNeg) (s2) ∧ TI S125 sz bd ms2 s2 a2 := by
      by_cases hw : (mv_i S125 3 9).toInt < 0
      · refine Or.inr ⟨((307, 0) : Mk) :: ms, s0, a + 1, by omega, ?_, by omega, hw, by omega, ?_, by omega, by omega, (hWm.up (by omega)).cons (fun q => ⟨by show 0 ≤ (0 : Int32).toInt; decide, by show (0 : Int) ≤ ((a + 1 : Nat) : Int); omega⟩)⟩
        · rw [y1, y2, x1, x2, Nat.zero_add, Nat.zero_add]
          exact hX
        · have := (r119.2.1 (by omega)).2.2.1
          have : ¬ (mv_i σ 3 8).toInt = 60 := fun q => this (Int32.toInt_inj.mp q)
          omega
      · exact Or.inl (by omega)
    clear eS125
    refine mv_iconst (pc := 125) (v := 0) B d_Exprs_operand_125 (by decide) ?_
    exact mv_iret (pc := 126) B hr rfl d_Exprs_operand_126 (Nat.le_refl _) (Nat.le_refl _) ⟨_, rfl, hF, hX.1.2.2.2.1, Or.inl rfl, hend⟩
  refine ⟨fun h9 => ?_, fun h9n40 => ?_⟩
  · skip
    have h9 : v4 = 40 := Int32.toInt_inj.mp (show v4.toInt = (40 : Int32).toInt from h9)
    have hq9 : (v4 = 40 ∨ v4 = 123) := by first | exact Or.inl h9 | exact Or.inr h9
    have hkn : ¬ v4 = 0 ∧ ¬ v4 = 1 ∧ ¬ v4 = 2 := by rcases hq9 with rfl | rfl <;> decide
    have hkm : ¬ v4 = 63 ∧ ¬ v4 = 58 ∧ ¬ v4 = 91 := by rcases hq9 with rfl | rfl <;> decide
    have hkl : lvl v4 = 0 := by rcases hq9 with rfl | rfl <;> decide
    have hkw : wt (v4, 0) = 0 ∧ wr (v4, 0) = 0 ∧ wc (v4, 0) = 0 ∧ wd (v4, 0) = 1 := by rcases hq9 with rfl | rfl <;> decide
    refine mv_aload_n (pc := 127) B d_Exprs_operand_127 rfl 1 rfl ?_
    refine mv_iload_n (pc := 128) B d_Exprs_operand_128 rfl 0 rfl ?_
    refine mv_aload_n (pc := 129) B d_Exprs_operand_129 rfl 1 rfl ?_
    refine mv_getR (pc := 130) (ci := 6) (C := R_Exprs) (T := F_Exprs) (N := 11) B 0 rfl rfl (by decide) i_Exprs (B.2.2.2.1 _ k_193) rfl (hR.1 _ 0 _ rfl) d_Exprs_operand_130 ?_
    refine mv_iload_n (pc := 133) B d_Exprs_operand_133 rfl 0 rfl ?_
    refine mv_callVi (pc := 134) (n := 1) (ci := 2) (C := R_Tokens) B (mK_ok sk sv) hNs rfl rfl (c_Tokens_openN l hi _ _ hR.1 (hB0.rf hF hP ht2).2.1 (by omega) (by omega) hkn) rfl (ma_goodc kc_Tokens_open) (B.2.2.2.1 _ k_1415) (B.2.2.2.1 _ k_1350) (B.2.2.2.1 _ k_1351) (B.2.2.2.1 _ k_3) ⟨by decide +kernel, by decide +kernel, by decide +kernel⟩ rfl d_Exprs_operand_134 rfl (Nat.le_of_ble_eq_true rfl) ⟨by decide, by decide⟩ ⟨by decide, by decide⟩ ⟨by decide, by decide⟩ (mv_noH hno _) (fun v134 σ134 h134 => ?_)
    obtain ⟨a134, w134, e134, r134⟩ := h134
    have q134 := r134.1
    have z134 := fun q => (r134.2.1 q).1
    have y134 := And.intro r134.2.2.2.1 r134.2.2.2.2.1
    subst e134
    refine mv_gen (fun S137 eS137 => ?_)
    have hR : Rw 32 (mv_r S137) := by rw [eS137]; exact hR
    have hF : RF 32 σ S137 := by rw [eS137]; exact hF.tk3 _ _ _
    have hX : XM 32 th e0 bs BL f0 g0 ns S137 (ms) (sm wt ms) (sm wr ms) (s0) := by rw [eS137]; exact hX.tk3 hP _ _ _
    have t7 : (mv_i S137 3 7).toInt = a134.toInt := by rw [eS137]; rfl
    have t8 : (mv_i S137 3 8).toInt = (mv_i σ 3 8).toInt + 1 := by rw [eS137]; first | exact t8 | exact (sub_one (by omega)).trans (by omega) | exact (i32_inc (by omega)).trans (by omega)
    have t9 : (mv_i S137 3 9).toInt = w134.toInt := by rw [eS137]; rfl
    have kS137 : mv_a S137 4 = mv_a σ 4 := by rw [eS137]; first | rfl | exact kp
    have kp := kS137
    clear eS137
    refine mv_callVv (pc := 137) (n := 2) (ci := 6) (C := R_Exprs) B (mK_ok sk sv) hNs rfl rfl (c_Exprs_mark l hi _ _ _ hR.1 (by have := hX.1.1; omega) (by have := hX.1.1; omega)) rfl (ma_goodc kc_Exprs_mark) (B.2.2.2.1 _ k_1416) (B.2.2.2.1 _ k_1418) (B.2.2.2.1 _ ks_48) (B.2.2.2.1 _ k_7) ⟨by decide +kernel, by decide +kernel, by decide +kernel⟩ rfl d_Exprs_operand_137 rfl (Nat.le_of_ble_eq_true rfl) ⟨by decide, by decide⟩ ⟨by decide, by decide⟩ ⟨by decide, by decide⟩ (mv_noH hno _) (fun σ137 h137 => ?_)
    subst h137
    refine mv_gen (fun S140 eS140 => ?_)
    have hR : Rw 32 (mv_r S140) := by rw [eS140]; exact hR
    have hF : RF 32 σ S140 := by rw [eS140]; exact hF.mark _ _
    have hX : XM 32 th e0 bs BL f0 g0 ns S140 (((v4, 0) : Mk) :: ms) (sm wt ms) (sm wr ms) (s0) := by rw [eS140]; exact hX.mark hP (by omega) ⟨y134.1, by omega⟩ hkm (fun q => by omega)
    have t7 := Eq.trans (congrArg Int32.toInt (show mv_i S140 3 7 = mv_i _ 3 7 by rw [eS140]; rfl)) t7
    have t8 := Eq.trans (congrArg Int32.toInt (show mv_i S140 3 8 = mv_i _ 3 8 by rw [eS140]; rfl)) t8
    have t9 := Eq.trans (congrArg Int32.toInt (show mv_i S140 3 9 = mv_i _ 3 9 by rw [eS140]; rfl)) t9
    have kp := Eq.trans (show mv_a S140 4 = mv_a _ 4 by rw [eS140]; rfl) kp
    have y1 : sm wt (((v4, 0) : Mk) :: ms) = wt (v4, 0) + sm wt ms := rfl
    have y2 : sm wr (((v4, 0) : Mk) :: ms) = wr (v4, 0) + sm wr ms := rfl
    have y3 : sm wd (((v4, 0) : Mk) :: ms) = wd (v4, 0) + sm wd ms := rfl
    have y4 : sm wc (((v4, 0) : Mk) :: ms) = wc (v4, 0) + sm wc ms := rfl
    have x1 := hkw.1
    have x2 := hkw.2.1
    have x3 := hkw.2.2.2
    have x4 := hkw.2.2.1
    have hend : 0 ≤ (mv_i S140 3 9).toInt ∨ ∃ ms2 s2 a2, a < a2 ∧ XM 32 th e0 bs BL f0 g0 ns S140 (ms2) (sm wt ms2 + (0 : Int32).toNatClampNeg) (sm wr ms2 + (0 : Int32).toNatClampNeg) (s2) ∧ TI S140 sz bd ms2 s2 a2 := by
      by_cases hw : (mv_i S140 3 9).toInt < 0
      · refine Or.inr ⟨((v4, 0) : Mk) :: ms, s0, a + 1, by omega, ?_, by omega, hw, by omega, ?_, by omega, by omega, (hWm.up (by omega)).cons (fun q => ⟨by show 0 ≤ (0 : Int32).toInt; decide, by show (0 : Int) ≤ ((a + 1 : Nat) : Int); omega⟩)⟩
        · rw [y1, y2, x1, x2, Nat.zero_add, Nat.zero_add]
          exact hX
        · have := (r134.2.1 (by omega)).2.2.1
          have : ¬ (mv_i σ 3 8).toInt = 60 := fun q => this (Int32.toInt_inj.mp q)
          omega
      · exact Or.inl (by omega)
    clear eS140
    refine mv_iconst (pc := 140) (v := 0) B d_Exprs_operand_140 (by decide) ?_
    exact mv_iret (pc := 141) B hr rfl d_Exprs_operand_141 (Nat.le_refl _) (Nat.le_refl _) ⟨_, rfl, hF, hX.1.2.2.2.1, Or.inl rfl, hend⟩
  refine ⟨fun h9 => ?_, fun h9n45 => ?_⟩
  · skip
    have h9 : v4 = 45 := Int32.toInt_inj.mp (show v4.toInt = (45 : Int32).toInt from h9)
    subst h9
    refine mv_aload_n (pc := 76) B d_Exprs_operand_76 rfl 1 rfl ?_
    refine mv_sipush (pc := 77) (v := 305) B d_Exprs_operand_77 (by decide) ?_
    refine mv_aload_n (pc := 80) B d_Exprs_operand_80 rfl 1 rfl ?_
    refine mv_getR (pc := 81) (ci := 6) (C := R_Exprs) (T := F_Exprs) (N := 11) B 0 rfl rfl (by decide) i_Exprs (B.2.2.2.1 _ k_193) rfl (hR.1 _ 0 _ rfl) d_Exprs_operand_81 ?_
    refine mv_iload_n (pc := 84) B d_Exprs_operand_84 rfl 0 rfl ?_
    refine mv_callVi (pc := 85) (n := 1) (ci := 2) (C := R_Tokens) B (mK_ok sk sv) hNs rfl rfl (c_Tokens_openN l hi _ _ hR.1 (hB0.rf hF hP ht2).2.1 (by omega) (by omega) (by decide)) rfl (ma_goodc kc_Tokens_open) (B.2.2.2.1 _ k_1415) (B.2.2.2.1 _ k_1350) (B.2.2.2.1 _ k_1351) (B.2.2.2.1 _ k_3) ⟨by decide +kernel, by decide +kernel, by decide +kernel⟩ rfl d_Exprs_operand_85 rfl (Nat.le_of_ble_eq_true rfl) ⟨by decide, by decide⟩ ⟨by decide, by decide⟩ ⟨by decide, by decide⟩ (mv_noH hno _) (fun v85 σ85 h85 => ?_)
    obtain ⟨a85, w85, e85, r85⟩ := h85
    have q85 := r85.1
    have z85 := fun q => (r85.2.1 q).1
    have y85 := And.intro r85.2.2.2.1 r85.2.2.2.2.1
    subst e85
    refine mv_gen (fun S88 eS88 => ?_)
    have hR : Rw 32 (mv_r S88) := by rw [eS88]; exact hR
    have hF : RF 32 σ S88 := by rw [eS88]; exact hF.tk3 _ _ _
    have hX : XM 32 th e0 bs BL f0 g0 ns S88 (ms) (sm wt ms) (sm wr ms) (s0) := by rw [eS88]; exact hX.tk3 hP _ _ _
    have t7 : (mv_i S88 3 7).toInt = a85.toInt := by rw [eS88]; rfl
    have t8 : (mv_i S88 3 8).toInt = (mv_i σ 3 8).toInt + 1 := by rw [eS88]; first | exact t8 | exact (sub_one (by omega)).trans (by omega) | exact (i32_inc (by omega)).trans (by omega)
    have t9 : (mv_i S88 3 9).toInt = w85.toInt := by rw [eS88]; rfl
    have kS88 : mv_a S88 4 = mv_a σ 4 := by rw [eS88]; first | rfl | exact kp
    have kp := kS88
    clear eS88
    refine mv_callVv (pc := 88) (n := 2) (ci := 6) (C := R_Exprs) B (mK_ok sk sv) hNs rfl rfl (c_Exprs_mark l hi _ _ _ hR.1 (by have := hX.1.1; omega) (by have := hX.1.1; omega)) rfl (ma_goodc kc_Exprs_mark) (B.2.2.2.1 _ k_1416) (B.2.2.2.1 _ k_1418) (B.2.2.2.1 _ ks_48) (B.2.2.2.1 _ k_7) ⟨by decide +kernel, by decide +kernel, by decide +kernel⟩ rfl d_Exprs_operand_88 rfl (Nat.le_of_ble_eq_true rfl) ⟨by decide, by decide⟩ ⟨by decide, by decide⟩ ⟨by decide, by decide⟩ (mv_noH hno _) (fun σ88 h88 => ?_)
    subst h88
    refine mv_gen (fun S91 eS91 => ?_)
    have hR : Rw 32 (mv_r S91) := by rw [eS91]; exact hR
    have hF : RF 32 σ S91 := by rw [eS91]; exact hF.mark _ _
    have hX : XM 32 th e0 bs BL f0 g0 ns S91 (((305, 0) : Mk) :: ms) (sm wt ms) (sm wr ms) (s0) := by rw [eS91]; exact hX.mark hP (by omega) ⟨y85.1, by omega⟩ (by decide) (fun q => absurd q (by decide))
    have t7 := Eq.trans (congrArg Int32.toInt (show mv_i S91 3 7 = mv_i _ 3 7 by rw [eS91]; rfl)) t7
    have t8 := Eq.trans (congrArg Int32.toInt (show mv_i S91 3 8 = mv_i _ 3 8 by rw [eS91]; rfl)) t8
    have t9 := Eq.trans (congrArg Int32.toInt (show mv_i S91 3 9 = mv_i _ 3 9 by rw [eS91]; rfl)) t9
    have kp := Eq.trans (show mv_a S91 4 = mv_a _ 4 by rw [eS91]; rfl) kp
    have y1 : sm wt (((305, 0) : Mk) :: ms) = wt (305, 0) + sm wt ms := rfl
    have y2 : sm wr (((305, 0) : Mk) :: ms) = wr (305, 0) + sm wr ms := rfl
    have y3 : sm wd (((305, 0) : Mk) :: ms) = wd (305, 0) + sm wd ms := rfl
    have y4 : sm wc (((305, 0) : Mk) :: ms) = wc (305, 0) + sm wc ms := rfl
    have x1 := (show wt (305, 0) = 0 by decide)
    have x2 := (show wr (305, 0) = 0 by decide)
    have x3 := (show wd (305, 0) = 1 by decide)
    have x4 := (show wc (305, 0) = 1 by decide)
    have hend : 0 ≤ (mv_i S91 3 9).toInt ∨ ∃ ms2 s2 a2, a < a2 ∧ XM 32 th e0 bs BL f0 g0 ns S91 (ms2) (sm wt ms2 + (0 : Int32).toNatClampNeg) (sm wr ms2 + (0 : Int32).toNatClampNeg) (s2) ∧ TI S91 sz bd ms2 s2 a2 := by
      by_cases hw : (mv_i S91 3 9).toInt < 0
      · refine Or.inr ⟨((305, 0) : Mk) :: ms, s0, a + 1, by omega, ?_, by omega, hw, by omega, ?_, by omega, by omega, (hWm.up (by omega)).cons (fun q => ⟨by show 0 ≤ (0 : Int32).toInt; decide, by show (0 : Int) ≤ ((a + 1 : Nat) : Int); omega⟩)⟩
        · rw [y1, y2, x1, x2, Nat.zero_add, Nat.zero_add]
          exact hX
        · have := (r85.2.1 (by omega)).2.2.1
          have : ¬ (mv_i σ 3 8).toInt = 60 := fun q => this (Int32.toInt_inj.mp q)
          omega
      · exact Or.inl (by omega)
    clear eS91
    refine mv_iconst (pc := 91) (v := 0) B d_Exprs_operand_91 (by decide) ?_
    exact mv_iret (pc := 92) B hr rfl d_Exprs_operand_92 (Nat.le_refl _) (Nat.le_refl _) ⟨_, rfl, hF, hX.1.2.2.2.1, Or.inl rfl, hend⟩
  refine ⟨fun h9 => ?_, fun h9n123 => ?_⟩
  · skip
    have h9 : v4 = 123 := Int32.toInt_inj.mp (show v4.toInt = (123 : Int32).toInt from h9)
    have hq9 : (v4 = 40 ∨ v4 = 123) := by first | exact Or.inl h9 | exact Or.inr h9
    have hkn : ¬ v4 = 0 ∧ ¬ v4 = 1 ∧ ¬ v4 = 2 := by rcases hq9 with rfl | rfl <;> decide
    have hkm : ¬ v4 = 63 ∧ ¬ v4 = 58 ∧ ¬ v4 = 91 := by rcases hq9 with rfl | rfl <;> decide
    have hkl : lvl v4 = 0 := by rcases hq9 with rfl | rfl <;> decide
    have hkw : wt (v4, 0) = 0 ∧ wr (v4, 0) = 0 ∧ wc (v4, 0) = 0 ∧ wd (v4, 0) = 1 := by rcases hq9 with rfl | rfl <;> decide
    refine mv_aload_n (pc := 127) B d_Exprs_operand_127 rfl 1 rfl ?_
    refine mv_iload_n (pc := 128) B d_Exprs_operand_128 rfl 0 rfl ?_
    refine mv_aload_n (pc := 129) B d_Exprs_operand_129 rfl 1 rfl ?_
    refine mv_getR (pc := 130) (ci := 6) (C := R_Exprs) (T := F_Exprs) (N := 11) B 0 rfl rfl (by decide) i_Exprs (B.2.2.2.1 _ k_193) rfl (hR.1 _ 0 _ rfl) d_Exprs_operand_130 ?_
    refine mv_iload_n (pc := 133) B d_Exprs_operand_133 rfl 0 rfl ?_
    refine mv_callVi (pc := 134) (n := 1) (ci := 2) (C := R_Tokens) B (mK_ok sk sv) hNs rfl rfl (c_Tokens_openN l hi _ _ hR.1 (hB0.rf hF hP ht2).2.1 (by omega) (by omega) hkn) rfl (ma_goodc kc_Tokens_open) (B.2.2.2.1 _ k_1415) (B.2.2.2.1 _ k_1350) (B.2.2.2.1 _ k_1351) (B.2.2.2.1 _ k_3) ⟨by decide +kernel, by decide +kernel, by decide +kernel⟩ rfl d_Exprs_operand_134 rfl (Nat.le_of_ble_eq_true rfl) ⟨by decide, by decide⟩ ⟨by decide, by decide⟩ ⟨by decide, by decide⟩ (mv_noH hno _) (fun v134 σ134 h134 => ?_)
    obtain ⟨a134, w134, e134, r134⟩ := h134
    have q134 := r134.1
    have z134 := fun q => (r134.2.1 q).1
    have y134 := And.intro r134.2.2.2.1 r134.2.2.2.2.1
    subst e134
    refine mv_gen (fun S137 eS137 => ?_)
    have hR : Rw 32 (mv_r S137) := by rw [eS137]; exact hR
    have hF : RF 32 σ S137 := by rw [eS137]; exact hF.tk3 _ _ _
    have hX : XM 32 th e0 bs BL f0 g0 ns S137 (ms) (sm wt ms) (sm wr ms) (s0) := by rw [eS137]; exact hX.tk3 hP _ _ _
    have t7 : (mv_i S137 3 7).toInt = a134.toInt := by rw [eS137]; rfl
    have t8 : (mv_i S137 3 8).toInt = (mv_i σ 3 8).toInt + 1 := by rw [eS137]; first | exact t8 | exact (sub_one (by omega)).trans (by omega) | exact (i32_inc (by omega)).trans (by omega)
    have t9 : (mv_i S137 3 9).toInt = w134.toInt := by rw [eS137]; rfl
    have kS137 : mv_a S137 4 = mv_a σ 4 := by rw [eS137]; first | rfl | exact kp
    have kp := kS137
    clear eS137
    refine mv_callVv (pc := 137) (n := 2) (ci := 6) (C := R_Exprs) B (mK_ok sk sv) hNs rfl rfl (c_Exprs_mark l hi _ _ _ hR.1 (by have := hX.1.1; omega) (by have := hX.1.1; omega)) rfl (ma_goodc kc_Exprs_mark) (B.2.2.2.1 _ k_1416) (B.2.2.2.1 _ k_1418) (B.2.2.2.1 _ ks_48) (B.2.2.2.1 _ k_7) ⟨by decide +kernel, by decide +kernel, by decide +kernel⟩ rfl d_Exprs_operand_137 rfl (Nat.le_of_ble_eq_true rfl) ⟨by decide, by decide⟩ ⟨by decide, by decide⟩ ⟨by decide, by decide⟩ (mv_noH hno _) (fun σ137 h137 => ?_)
    subst h137
    refine mv_gen (fun S140 eS140 => ?_)
    have hR : Rw 32 (mv_r S140) := by rw [eS140]; exact hR
    have hF : RF 32 σ S140 := by rw [eS140]; exact hF.mark _ _
    have hX : XM 32 th e0 bs BL f0 g0 ns S140 (((v4, 0) : Mk) :: ms) (sm wt ms) (sm wr ms) (s0) := by rw [eS140]; exact hX.mark hP (by omega) ⟨y134.1, by omega⟩ hkm (fun q => by omega)
    have t7 := Eq.trans (congrArg Int32.toInt (show mv_i S140 3 7 = mv_i _ 3 7 by rw [eS140]; rfl)) t7
    have t8 := Eq.trans (congrArg Int32.toInt (show mv_i S140 3 8 = mv_i _ 3 8 by rw [eS140]; rfl)) t8
    have t9 := Eq.trans (congrArg Int32.toInt (show mv_i S140 3 9 = mv_i _ 3 9 by rw [eS140]; rfl)) t9
    have kp := Eq.trans (show mv_a S140 4 = mv_a _ 4 by rw [eS140]; rfl) kp
    have y1 : sm wt (((v4, 0) : Mk) :: ms) = wt (v4, 0) + sm wt ms := rfl
    have y2 : sm wr (((v4, 0) : Mk) :: ms) = wr (v4, 0) + sm wr ms := rfl
    have y3 : sm wd (((v4, 0) : Mk) :: ms) = wd (v4, 0) + sm wd ms := rfl
    have y4 : sm wc (((v4, 0) : Mk) :: ms) = wc (v4, 0) + sm wc ms := rfl
    have x1 := hkw.1
    have x2 := hkw.2.1
    have x3 := hkw.2.2.2
    have x4 := hkw.2.2.1
    have hend : 0 ≤ (mv_i S140 3 9).toInt ∨ ∃ ms2 s2 a2, a < a2 ∧ XM 32 th e0 bs BL f0 g0 ns S140 (ms2) (sm wt ms2 + (0 : Int32).toNatClampNeg) (sm wr ms2 + (0 : Int32).toNatClampNeg) (s2) ∧ TI S140 sz bd ms2 s2 a2 := by
      by_cases hw : (mv_i S140 3 9).toInt < 0
      · refine Or.inr ⟨((v4, 0) : Mk) :: ms, s0, a + 1, by omega, ?_, by omega, hw, by omega, ?_, by omega, by omega, (hWm.up (by omega)).cons (fun q => ⟨by show 0 ≤ (0 : Int32).toInt; decide, by show (0 : Int) ≤ ((a + 1 : Nat) : Int); omega⟩)⟩
        · rw [y1, y2, x1, x2, Nat.zero_add, Nat.zero_add]
          exact hX
        · have := (r134.2.1 (by omega)).2.2.1
          have : ¬ (mv_i σ 3 8).toInt = 60 := fun q => this (Int32.toInt_inj.mp q)
          omega
      · exact Or.inl (by omega)
    clear eS140
    refine mv_iconst (pc := 140) (v := 0) B d_Exprs_operand_140 (by decide) ?_
    exact mv_iret (pc := 141) B hr rfl d_Exprs_operand_141 (Nat.le_refl _) (Nat.le_refl _) ⟨_, rfl, hF, hX.1.2.2.2.1, Or.inl rfl, hend⟩
  refine ⟨fun h9 => ?_, fun h9n126 => ?_⟩
  · skip
    have h9 : v4 = 126 := Int32.toInt_inj.mp (show v4.toInt = (126 : Int32).toInt from h9)
    subst h9
    refine mv_aload_n (pc := 93) B d_Exprs_operand_93 rfl 1 rfl ?_
    refine mv_sipush (pc := 94) (v := 306) B d_Exprs_operand_94 (by decide) ?_
    refine mv_aload_n (pc := 97) B d_Exprs_operand_97 rfl 1 rfl ?_
    refine mv_getR (pc := 98) (ci := 6) (C := R_Exprs) (T := F_Exprs) (N := 11) B 0 rfl rfl (by decide) i_Exprs (B.2.2.2.1 _ k_193) rfl (hR.1 _ 0 _ rfl) d_Exprs_operand_98 ?_
    refine mv_iload_n (pc := 101) B d_Exprs_operand_101 rfl 0 rfl ?_
    refine mv_callVi (pc := 102) (n := 1) (ci := 2) (C := R_Tokens) B (mK_ok sk sv) hNs rfl rfl (c_Tokens_openN l hi _ _ hR.1 (hB0.rf hF hP ht2).2.1 (by omega) (by omega) (by decide)) rfl (ma_goodc kc_Tokens_open) (B.2.2.2.1 _ k_1415) (B.2.2.2.1 _ k_1350) (B.2.2.2.1 _ k_1351) (B.2.2.2.1 _ k_3) ⟨by decide +kernel, by decide +kernel, by decide +kernel⟩ rfl d_Exprs_operand_102 rfl (Nat.le_of_ble_eq_true rfl) ⟨by decide, by decide⟩ ⟨by decide, by decide⟩ ⟨by decide, by decide⟩ (mv_noH hno _) (fun v102 σ102 h102 => ?_)
    obtain ⟨a102, w102, e102, r102⟩ := h102
    have q102 := r102.1
    have z102 := fun q => (r102.2.1 q).1
    have y102 := And.intro r102.2.2.2.1 r102.2.2.2.2.1
    subst e102
    refine mv_gen (fun S105 eS105 => ?_)
    have hR : Rw 32 (mv_r S105) := by rw [eS105]; exact hR
    have hF : RF 32 σ S105 := by rw [eS105]; exact hF.tk3 _ _ _
    have hX : XM 32 th e0 bs BL f0 g0 ns S105 (ms) (sm wt ms) (sm wr ms) (s0) := by rw [eS105]; exact hX.tk3 hP _ _ _
    have t7 : (mv_i S105 3 7).toInt = a102.toInt := by rw [eS105]; rfl
    have t8 : (mv_i S105 3 8).toInt = (mv_i σ 3 8).toInt + 1 := by rw [eS105]; first | exact t8 | exact (sub_one (by omega)).trans (by omega) | exact (i32_inc (by omega)).trans (by omega)
    have t9 : (mv_i S105 3 9).toInt = w102.toInt := by rw [eS105]; rfl
    have kS105 : mv_a S105 4 = mv_a σ 4 := by rw [eS105]; first | rfl | exact kp
    have kp := kS105
    clear eS105
    refine mv_callVv (pc := 105) (n := 2) (ci := 6) (C := R_Exprs) B (mK_ok sk sv) hNs rfl rfl (c_Exprs_mark l hi _ _ _ hR.1 (by have := hX.1.1; omega) (by have := hX.1.1; omega)) rfl (ma_goodc kc_Exprs_mark) (B.2.2.2.1 _ k_1416) (B.2.2.2.1 _ k_1418) (B.2.2.2.1 _ ks_48) (B.2.2.2.1 _ k_7) ⟨by decide +kernel, by decide +kernel, by decide +kernel⟩ rfl d_Exprs_operand_105 rfl (Nat.le_of_ble_eq_true rfl) ⟨by decide, by decide⟩ ⟨by decide, by decide⟩ ⟨by decide, by decide⟩ (mv_noH hno _) (fun σ105 h105 => ?_)
    subst h105
    refine mv_gen (fun S108 eS108 => ?_)
    have hR : Rw 32 (mv_r S108) := by rw [eS108]; exact hR
    have hF : RF 32 σ S108 := by rw [eS108]; exact hF.mark _ _
    have hX : XM 32 th e0 bs BL f0 g0 ns S108 (((306, 0) : Mk) :: ms) (sm wt ms) (sm wr ms) (s0) := by rw [eS108]; exact hX.mark hP (by omega) ⟨y102.1, by omega⟩ (by decide) (fun q => absurd q (by decide))
    have t7 := Eq.trans (congrArg Int32.toInt (show mv_i S108 3 7 = mv_i _ 3 7 by rw [eS108]; rfl)) t7
    have t8 := Eq.trans (congrArg Int32.toInt (show mv_i S108 3 8 = mv_i _ 3 8 by rw [eS108]; rfl)) t8
    have t9 := Eq.trans (congrArg Int32.toInt (show mv_i S108 3 9 = mv_i _ 3 9 by rw [eS108]; rfl)) t9
    have kp := Eq.trans (show mv_a S108 4 = mv_a _ 4 by rw [eS108]; rfl) kp
    have y1 : sm wt (((306, 0) : Mk) :: ms) = wt (306, 0) + sm wt ms := rfl
    have y2 : sm wr (((306, 0) : Mk) :: ms) = wr (306, 0) + sm wr ms := rfl
    have y3 : sm wd (((306, 0) : Mk) :: ms) = wd (306, 0) + sm wd ms := rfl
    have y4 : sm wc (((306, 0) : Mk) :: ms) = wc (306, 0) + sm wc ms := rfl
    have x1 := (show wt (306, 0) = 0 by decide)
    have x2 := (show wr (306, 0) = 0 by decide)
    have x3 := (show wd (306, 0) = 1 by decide)
    have x4 := (show wc (306, 0) = 1 by decide)
    have hend : 0 ≤ (mv_i S108 3 9).toInt ∨ ∃ ms2 s2 a2, a < a2 ∧ XM 32 th e0 bs BL f0 g0 ns S108 (ms2) (sm wt ms2 + (0 : Int32).toNatClampNeg) (sm wr ms2 + (0 : Int32).toNatClampNeg) (s2) ∧ TI S108 sz bd ms2 s2 a2 := by
      by_cases hw : (mv_i S108 3 9).toInt < 0
      · refine Or.inr ⟨((306, 0) : Mk) :: ms, s0, a + 1, by omega, ?_, by omega, hw, by omega, ?_, by omega, by omega, (hWm.up (by omega)).cons (fun q => ⟨by show 0 ≤ (0 : Int32).toInt; decide, by show (0 : Int) ≤ ((a + 1 : Nat) : Int); omega⟩)⟩
        · rw [y1, y2, x1, x2, Nat.zero_add, Nat.zero_add]
          exact hX
        · have := (r102.2.1 (by omega)).2.2.1
          have : ¬ (mv_i σ 3 8).toInt = 60 := fun q => this (Int32.toInt_inj.mp q)
          omega
      · exact Or.inl (by omega)
    clear eS108
    refine mv_iconst (pc := 108) (v := 0) B d_Exprs_operand_108 (by decide) ?_
    exact mv_iret (pc := 109) B hr rfl d_Exprs_operand_109 (Nat.le_refl _) (Nat.le_refl _) ⟨_, rfl, hF, hX.1.2.2.2.1, Or.inl rfl, hend⟩
  show mv_V _ _ _ _ _ _ _ _ _ _ _ _ _ _ _ _ 153 _ _
  refine mv_aload_n (pc := 153) B d_Exprs_operand_153 rfl 1 rfl ?_
  refine mv_iload_n (pc := 154) B d_Exprs_operand_154 rfl 0 rfl ?_
  refine mv_callVv (pc := 155) (n := 1) (ci := 6) (C := R_Exprs) B (mK_ok sk sv) hNs rfl rfl (c_Exprs_call_a l hi _ _ hB0 ht2 hX hI hlen hbs hk3) rfl (ma_goodc kc_Exprs_call) (B.2.2.2.1 _ k_1455) (B.2.2.2.1 _ k_1457) (B.2.2.2.1 _ ks_53) (B.2.2.2.1 _ k_7) ⟨by decide +kernel, by decide +kernel, by decide +kernel⟩ rfl d_Exprs_operand_155 rfl (Nat.le_of_ble_eq_true rfl) ⟨by decide, by decide⟩ ⟨by decide, by decide⟩ ⟨by decide, by decide⟩ (mv_noH hno _) (fun σ155 h155 => ?_)
  refine mv_iconst (pc := 158) (v := 0) B d_Exprs_operand_158 (by decide) ?_
  exact mv_iret (pc := 159) B hr rfl d_Exprs_operand_159 (Nat.le_refl _) (Nat.le_refl _) ⟨_, rfl, h155.1, h155.2.1, Or.inl rfl, h155.2.2⟩
set_option maxHeartbeats 4000000 in
set_option maxRecDepth 100000 in
theorem c_Exprs_operand_b (l : Launch) {dA : FieldType → ClassId} {D : va_G} {al : Nat → Nat} {ext : mv_Sh} {sk sv : Nat → Nat} (hi : mv_inj (mg dA D al ext)) (σ : mv_H) {t len n z sz th sl e0 bs ns : Nat} {BL : (Nat → Nat) → Prop} {f0 : Nat → Int32} {g0 : Nat → Int64} {ms : List Mk} {s0 bd a : Nat} (hB0 : SB 48 σ t len n z sz th sl) (ht2 : t = 1 ∨ t = 144) (hX : XM 48 th e0 bs BL f0 g0 ns σ (ms) (sm wt ms + 0) (sm wr ms + 0) (s0)) (hI : TI σ sz bd ms s0 a) (hlen : len ≤ 32768) (hbs : bs ≤ 1) : mv_C l y_Exprs_operand (Cond.code y_Exprs_operand b_Exprs_operand 2 (Option.some Jvm.ClassFile.FieldType.boolean) :: ma) ({ frames := 4, cells := 0, slots := 0, locals := 90 }) (mg dA D al ext) (mK sk sv) [.ref (al 22)] σ (mv_Ri (fun v σ1 => RF 48 σ σ1 ∧ Mt (mv_a σ1 24) ∧ (v = 0 ∨ v = 1) ∧ (0 ≤ (mv_i σ1 3 9).toInt ∨ ∃ ms2 s2 a2, a < a2 ∧ XM 48 th e0 bs BL f0 g0 ns σ1 (ms2) (sm wt ms2 + v.toNatClampNeg) (sm wr ms2 + v.toNatClampNeg) (s2) ∧ TI σ1 sz bd ms2 s2 a2))) := by
  refine mv_C.ofV (cc := b_Exprs_operand) (nL := 2) (ret := (Option.some Jvm.ClassFile.FieldType.boolean)) (by decide +kernel) rfl hi (Nat.le_of_ble_eq_true rfl) ?_
  intro p e s m below meth c B hNs hr hnm hno
  have hP : PQ 48 := by unfold PQ; omega
  have hR := hB0.1
  have hF : RF 48 σ σ := RF0
  have hT : mv_i σ 3 = mv_i σ 3 := rfl
  have hsz := hB0.2.1.2.2.2.2.2
  have hsz2 := hB0.2.1.2.2.2.1
  have hI5 := hI.2.2.2.2.1
  have ha9 := hI.2.2.2.2.2.1
  have pl := hI.len hX
  have hm8 := hX.1.1
  have t7 := hI.1
  have hw9 := hI.2.1
  have t9 : (mv_i σ 3 9).toInt = (mv_i σ 3 9).toInt := rfl
  have hd8 := hI.2.2.1
  have hd9 := hI.2.2.2.1
  have hWm := hI.2.2.2.2.2.2
  have kp : mv_a σ 4 = mv_a σ 4 := rfl
  have t8 : (mv_i σ 3 8).toInt = (mv_i σ 3 8).toInt := rfl
  refine mv_aload_n (pc := 0) B d_Exprs_operand_0 rfl 0 rfl ?_
  refine mv_getR (pc := 1) (ci := 6) (C := R_Exprs) (T := F_Exprs) (N := 11) B 0 rfl rfl (by decide) i_Exprs (B.2.2.2.1 _ k_193) rfl (hR.1 _ 0 _ rfl) d_Exprs_operand_1 ?_
  refine mv_callVi (pc := 4) (n := 0) (ci := 2) (C := R_Tokens) B (mK_ok sk sv) hNs rfl rfl (c_Tokens_kind l hi _ hR.1 (i32_in (by omega) (by omega))) rfl (ma_goodc kc_Tokens_kind) (B.2.2.2.1 _ k_1414) (B.2.2.2.1 _ k_1271) (B.2.2.2.1 _ k_1272) (B.2.2.2.1 _ k_3) ⟨by decide +kernel, by decide +kernel, by decide +kernel⟩ rfl d_Exprs_operand_4 rfl (Nat.le_of_ble_eq_true rfl) ⟨by decide, by decide⟩ ⟨by decide, by decide⟩ ⟨by decide, by decide⟩ (mv_noH hno _) (fun v4 σ4 h4 => ?_)
  obtain ⟨e4, z4⟩ := h4
  have e4 := e4.symm
  subst e4
  have hk3 : mv_a σ 4 (mv_i σ 3 7).toNatClampNeg = v4 := (z4.trans (if_pos (lt0.mpr hw9))).symm
  clear z4
  refine mv_istore_n (pc := 7) B d_Exprs_operand_7 rfl (by decide) rfl ?_
  refine mv_iload_n (pc := 8) B d_Exprs_operand_8 rfl 0 rfl ?_
  refine mv_lsw (pc := 9) B d_Exprs_operand_9 (by decide) (by decide) ?_
  refine ⟨fun h9 => ?_, fun h9n3 => ?_⟩
  · skip
    have h9 : v4 = 3 := Int32.toInt_inj.mp (show v4.toInt = (3 : Int32).toInt from h9)
    subst h9
    refine mv_aload_n (pc := 148) B d_Exprs_operand_148 rfl 1 rfl ?_
    refine mv_callVi (pc := 149) (n := 0) (ci := 6) (C := R_Exprs) B (mK_ok sk sv) hNs rfl rfl (c_Exprs_name_b l hi _ hB0 ht2 hX hI hlen hbs hk3) rfl (ma_goodc kc_Exprs_name) (B.2.2.2.1 _ k_1441) (B.2.2.2.1 _ k_1443) (B.2.2.2.1 _ ks_52) (B.2.2.2.1 _ k_7) ⟨by decide +kernel, by decide +kernel, by decide +kernel⟩ rfl d_Exprs_operand_149 rfl (Nat.le_of_ble_eq_true rfl) ⟨by decide, by decide⟩ ⟨by decide, by decide⟩ ⟨by decide, by decide⟩ (mv_noH hno _) (fun v149 σ149 h149 => ?_)
    exact mv_iret (pc := 152) B hr (z_eq h149.2.2.1) d_Exprs_operand_152 (Nat.le_refl _) (Nat.le_refl _) ⟨_, rfl, h149⟩
  refine ⟨fun h9 => ?_, fun h9n4 => ?_⟩
  · skip
    have h9 : v4 = 4 := Int32.toInt_inj.mp (show v4.toInt = (4 : Int32).toInt from h9)
    subst h9
    refine mv_aload_n (pc := 142) B d_Exprs_operand_142 rfl 1 rfl ?_
    refine mv_callVv (pc := 143) (n := 0) (ci := 6) (C := R_Exprs) B (mK_ok sk sv) hNs rfl rfl (c_Exprs_literal_b l hi _ hB0 ht2 hX hI hlen hbs) rfl (ma_goodc kc_Exprs_literal) (B.2.2.2.1 _ k_1420) (B.2.2.2.1 _ k_1422) (B.2.2.2.1 _ ks_49) (B.2.2.2.1 _ k_7) ⟨by decide +kernel, by decide +kernel, by decide +kernel⟩ rfl d_Exprs_operand_143 rfl (Nat.le_of_ble_eq_true rfl) ⟨by decide, by decide⟩ ⟨by decide, by decide⟩ ⟨by decide, by decide⟩ (mv_noH hno _) (fun σ143 h143 => ?_)
    refine mv_iconst (pc := 146) (v := 1) B d_Exprs_operand_146 (by decide) ?_
    exact mv_iret (pc := 147) B hr rfl d_Exprs_operand_147 (Nat.le_refl _) (Nat.le_refl _) ⟨_, rfl, h143.1, h143.2.1, Or.inr rfl, h143.2.2⟩
  refine ⟨fun h9 => ?_, fun h9n33 => ?_⟩
  · skip
    have h9 : v4 = 33 := Int32.toInt_inj.mp (show v4.toInt = (33 : Int32).toInt from h9)
    subst h9
    refine mv_aload_n (pc := 110) B d_Exprs_operand_110 rfl 1 rfl ?_
    refine mv_sipush (pc := 111) (v := 307) B d_Exprs_operand_111 (by decide) ?_
    refine mv_aload_n (pc := 114) B d_Exprs_operand_114 rfl 1 rfl ?_
    refine mv_getR (pc := 115) (ci := 6) (C := R_Exprs) (T := F_Exprs) (N := 11) B 0 rfl rfl (by decide) i_Exprs (B.2.2.2.1 _ k_193) rfl (hR.1 _ 0 _ rfl) d_Exprs_operand_115 ?_
    refine mv_iload_n (pc := 118) B d_Exprs_operand_118 rfl 0 rfl ?_
    refine mv_callVi (pc := 119) (n := 1) (ci := 2) (C := R_Tokens) B (mK_ok sk sv) hNs rfl rfl (c_Tokens_openN l hi _ _ hR.1 (hB0.rf hF hP ht2).2.1 (by omega) (by omega) (by decide)) rfl (ma_goodc kc_Tokens_open) (B.2.2.2.1 _ k_1415) (B.2.2.2.1 _ k_1350) (B.2.2.2.1 _ k_1351) (B.2.2.2.1 _ k_3) ⟨by decide +kernel, by decide +kernel, by decide +kernel⟩ rfl d_Exprs_operand_119 rfl (Nat.le_of_ble_eq_true rfl) ⟨by decide, by decide⟩ ⟨by decide, by decide⟩ ⟨by decide, by decide⟩ (mv_noH hno _) (fun v119 σ119 h119 => ?_)
    obtain ⟨a119, w119, e119, r119⟩ := h119
    have q119 := r119.1
    have z119 := fun q => (r119.2.1 q).1
    have y119 := And.intro r119.2.2.2.1 r119.2.2.2.2.1
    subst e119
    refine mv_gen (fun S122 eS122 => ?_)
    have hR : Rw 48 (mv_r S122) := by rw [eS122]; exact hR
    have hF : RF 48 σ S122 := by rw [eS122]; exact hF.tk3 _ _ _
    have hX : XM 48 th e0 bs BL f0 g0 ns S122 (ms) (sm wt ms) (sm wr ms) (s0) := by rw [eS122]; exact hX.tk3 hP _ _ _
    have t7 : (mv_i S122 3 7).toInt = a119.toInt := by rw [eS122]; rfl
    have t8 : (mv_i S122 3 8).toInt = (mv_i σ 3 8).toInt + 1 := by rw [eS122]; first | exact t8 | exact (sub_one (by omega)).trans (by omega) | exact (i32_inc (by omega)).trans (by omega)
    have t9 : (mv_i S122 3 9).toInt = w119.toInt := by rw [eS122]; rfl
    have kS122 : mv_a S122 4 = mv_a σ 4 := by rw [eS122]; first | rfl | exact kp
    have kp := kS122
    clear eS122
    refine mv_callVv (pc := 122) (n := 2) (ci := 6) (C := R_Exprs) B (mK_ok sk sv) hNs rfl rfl (c_Exprs_mark l hi _ _ _ hR.1 (by have := hX.1.1; omega) (by have := hX.1.1; omega)) rfl (ma_goodc kc_Exprs_mark) (B.2.2.2.1 _ k_1416) (B.2.2.2.1 _ k_1418) (B.2.2.2.1 _ ks_48) (B.2.2.2.1 _ k_7) ⟨by decide +kernel, by decide +kernel, by decide +kernel⟩ rfl d_Exprs_operand_122 rfl (Nat.le_of_ble_eq_true rfl) ⟨by decide, by decide⟩ ⟨by decide, by decide⟩ ⟨by decide, by decide⟩ (mv_noH hno _) (fun σ122 h122 => ?_)
    subst h122
    refine mv_gen (fun S125 eS125 => ?_)
    have hR : Rw 48 (mv_r S125) := by rw [eS125]; exact hR
    have hF : RF 48 σ S125 := by rw [eS125]; exact hF.mark _ _
    have hX : XM 48 th e0 bs BL f0 g0 ns S125 (((307, 0) : Mk) :: ms) (sm wt ms) (sm wr ms) (s0) := by rw [eS125]; exact hX.mark hP (by omega) ⟨y119.1, by omega⟩ (by decide) (fun q => absurd q (by decide))
    have t7 := Eq.trans (congrArg Int32.toInt (show mv_i S125 3 7 = mv_i _ 3 7 by rw [eS125]; rfl)) t7
    have t8 := Eq.trans (congrArg Int32.toInt (show mv_i S125 3 8 = mv_i _ 3 8 by rw [eS125]; rfl)) t8
    have t9 := Eq.trans (congrArg Int32.toInt (show mv_i S125 3 9 = mv_i _ 3 9 by rw [eS125]; rfl)) t9
    have kp := Eq.trans (show mv_a S125 4 = mv_a _ 4 by rw [eS125]; rfl) kp
    have y1 : sm wt (((307, 0) : Mk) :: ms) = wt (307, 0) + sm wt ms := rfl
    have y2 : sm wr (((307, 0) : Mk) :: ms) = wr (307, 0) + sm wr ms := rfl
    have y3 : sm wd (((307, 0) : Mk) :: ms) = wd (307, 0) + sm wd ms := rfl
    have y4 : sm wc (((307, 0) : Mk) :: ms) = wc (307, 0) + sm wc ms := rfl
    have x1 := (show wt (307, 0) = 0 by decide)
    have x2 := (show wr (307, 0) = 0 by decide)
    have x3 := (show wd (307, 0) = 1 by decide)
    have x4 := (show wc (307, 0) = 1 by decide)
    have hend : 0 ≤ (mv_i S125 3 9).toInt ∨ ∃ ms2 s2 a2, a < a2 ∧ XM 48 th e0 bs BL f0 g0 ns S125 (ms2) (sm wt ms2 + (0 : Int32).toNatClampNeg) (sm wr ms2 + (0 : Int32).toNatClampNeg) (s2) ∧ TI S125 sz bd ms2 s2 a2 := by
      by_cases hw : (mv_i S125 3 9).toInt < 0
      · refine Or.inr ⟨((307, 0) : Mk) :: ms, s0, a + 1, by omega, ?_, by omega, hw, by omega, ?_, by omega, by omega, (hWm.up (by omega)).cons (fun q => ⟨by show 0 ≤ (0 : Int32).toInt; decide, by show (0 : Int) ≤ ((a + 1 : Nat) : Int); omega⟩)⟩
        · rw [y1, y2, x1, x2, Nat.zero_add, Nat.zero_add]
          exact hX
        · have := (r119.2.1 (by omega)).2.2.1
          have : ¬ (mv_i σ 3 8).toInt = 60 := fun q => this (Int32.toInt_inj.mp q)
          omega
      · exact Or.inl (by omega)
    clear eS125
    refine mv_iconst (pc := 125) (v := 0) B d_Exprs_operand_125 (by decide) ?_
    exact mv_iret (pc := 126) B hr rfl d_Exprs_operand_126 (Nat.le_refl _) (Nat.le_refl _) ⟨_, rfl, hF, hX.1.2.2.2.1, Or.inl rfl, hend⟩
  refine ⟨fun h9 => ?_, fun h9n40 => ?_⟩
  · skip
    have h9 : v4 = 40 := Int32.toInt_inj.mp (show v4.toInt = (40 : Int32).toInt from h9)
    have hq9 : (v4 = 40 ∨ v4 = 123) := by first | exact Or.inl h9 | exact Or.inr h9
    have hkn : ¬ v4 = 0 ∧ ¬ v4 = 1 ∧ ¬ v4 = 2 := by rcases hq9 with rfl | rfl <;> decide
    have hkm : ¬ v4 = 63 ∧ ¬ v4 = 58 ∧ ¬ v4 = 91 := by rcases hq9 with rfl | rfl <;> decide
    have hkl : lvl v4 = 0 := by rcases hq9 with rfl | rfl <;> decide
    have hkw : wt (v4, 0) = 0 ∧ wr (v4, 0) = 0 ∧ wc (v4, 0) = 0 ∧ wd (v4, 0) = 1 := by rcases hq9 with rfl | rfl <;> decide
    refine mv_aload_n (pc := 127) B d_Exprs_operand_127 rfl 1 rfl ?_
    refine mv_iload_n (pc := 128) B d_Exprs_operand_128 rfl 0 rfl ?_
    refine mv_aload_n (pc := 129) B d_Exprs_operand_129 rfl 1 rfl ?_
    refine mv_getR (pc := 130) (ci := 6) (C := R_Exprs) (T := F_Exprs) (N := 11) B 0 rfl rfl (by decide) i_Exprs (B.2.2.2.1 _ k_193) rfl (hR.1 _ 0 _ rfl) d_Exprs_operand_130 ?_
    refine mv_iload_n (pc := 133) B d_Exprs_operand_133 rfl 0 rfl ?_
    refine mv_callVi (pc := 134) (n := 1) (ci := 2) (C := R_Tokens) B (mK_ok sk sv) hNs rfl rfl (c_Tokens_openN l hi _ _ hR.1 (hB0.rf hF hP ht2).2.1 (by omega) (by omega) hkn) rfl (ma_goodc kc_Tokens_open) (B.2.2.2.1 _ k_1415) (B.2.2.2.1 _ k_1350) (B.2.2.2.1 _ k_1351) (B.2.2.2.1 _ k_3) ⟨by decide +kernel, by decide +kernel, by decide +kernel⟩ rfl d_Exprs_operand_134 rfl (Nat.le_of_ble_eq_true rfl) ⟨by decide, by decide⟩ ⟨by decide, by decide⟩ ⟨by decide, by decide⟩ (mv_noH hno _) (fun v134 σ134 h134 => ?_)
    obtain ⟨a134, w134, e134, r134⟩ := h134
    have q134 := r134.1
    have z134 := fun q => (r134.2.1 q).1
    have y134 := And.intro r134.2.2.2.1 r134.2.2.2.2.1
    subst e134
    refine mv_gen (fun S137 eS137 => ?_)
    have hR : Rw 48 (mv_r S137) := by rw [eS137]; exact hR
    have hF : RF 48 σ S137 := by rw [eS137]; exact hF.tk3 _ _ _
    have hX : XM 48 th e0 bs BL f0 g0 ns S137 (ms) (sm wt ms) (sm wr ms) (s0) := by rw [eS137]; exact hX.tk3 hP _ _ _
    have t7 : (mv_i S137 3 7).toInt = a134.toInt := by rw [eS137]; rfl
    have t8 : (mv_i S137 3 8).toInt = (mv_i σ 3 8).toInt + 1 := by rw [eS137]; first | exact t8 | exact (sub_one (by omega)).trans (by omega) | exact (i32_inc (by omega)).trans (by omega)
    have t9 : (mv_i S137 3 9).toInt = w134.toInt := by rw [eS137]; rfl
    have kS137 : mv_a S137 4 = mv_a σ 4 := by rw [eS137]; first | rfl | exact kp
    have kp := kS137
    clear eS137
    refine mv_callVv (pc := 137) (n := 2) (ci := 6) (C := R_Exprs) B (mK_ok sk sv) hNs rfl rfl (c_Exprs_mark l hi _ _ _ hR.1 (by have := hX.1.1; omega) (by have := hX.1.1; omega)) rfl (ma_goodc kc_Exprs_mark) (B.2.2.2.1 _ k_1416) (B.2.2.2.1 _ k_1418) (B.2.2.2.1 _ ks_48) (B.2.2.2.1 _ k_7) ⟨by decide +kernel, by decide +kernel, by decide +kernel⟩ rfl d_Exprs_operand_137 rfl (Nat.le_of_ble_eq_true rfl) ⟨by decide, by decide⟩ ⟨by decide, by decide⟩ ⟨by decide, by decide⟩ (mv_noH hno _) (fun σ137 h137 => ?_)
    subst h137
    refine mv_gen (fun S140 eS140 => ?_)
    have hR : Rw 48 (mv_r S140) := by rw [eS140]; exact hR
    have hF : RF 48 σ S140 := by rw [eS140]; exact hF.mark _ _
    have hX : XM 48 th e0 bs BL f0 g0 ns S140 (((v4, 0) : Mk) :: ms) (sm wt ms) (sm wr ms) (s0) := by rw [eS140]; exact hX.mark hP (by omega) ⟨y134.1, by omega⟩ hkm (fun q => by omega)
    have t7 := Eq.trans (congrArg Int32.toInt (show mv_i S140 3 7 = mv_i _ 3 7 by rw [eS140]; rfl)) t7
    have t8 := Eq.trans (congrArg Int32.toInt (show mv_i S140 3 8 = mv_i _ 3 8 by rw [eS140]; rfl)) t8
    have t9 := Eq.trans (congrArg Int32.toInt (show mv_i S140 3 9 = mv_i _ 3 9 by rw [eS140]; rfl)) t9
    have kp := Eq.trans (show mv_a S140 4 = mv_a _ 4 by rw [eS140]; rfl) kp
    have y1 : sm wt (((v4, 0) : Mk) :: ms) = wt (v4, 0) + sm wt ms := rfl
    have y2 : sm wr (((v4, 0) : Mk) :: ms) = wr (v4, 0) + sm wr ms := rfl
    have y3 : sm wd (((v4, 0) : Mk) :: ms) = wd (v4, 0) + sm wd ms := rfl
    have y4 : sm wc (((v4, 0) : Mk) :: ms) = wc (v4, 0) + sm wc ms := rfl
    have x1 := hkw.1
    have x2 := hkw.2.1
    have x3 := hkw.2.2.2
    have x4 := hkw.2.2.1
    have hend : 0 ≤ (mv_i S140 3 9).toInt ∨ ∃ ms2 s2 a2, a < a2 ∧ XM 48 th e0 bs BL f0 g0 ns S140 (ms2) (sm wt ms2 + (0 : Int32).toNatClampNeg) (sm wr ms2 + (0 : Int32).toNatClampNeg) (s2) ∧ TI S140 sz bd ms2 s2 a2 := by
      by_cases hw : (mv_i S140 3 9).toInt < 0
      · refine Or.inr ⟨((v4, 0) : Mk) :: ms, s0, a + 1, by omega, ?_, by omega, hw, by omega, ?_, by omega, by omega, (hWm.up (by omega)).cons (fun q => ⟨by show 0 ≤ (0 : Int32).toInt; decide, by show (0 : Int) ≤ ((a + 1 : Nat) : Int); omega⟩)⟩
        · rw [y1, y2, x1, x2, Nat.zero_add, Nat.zero_add]
          exact hX
        · have := (r134.2.1 (by omega)).2.2.1
          have : ¬ (mv_i σ 3 8).toInt = 60 := fun q => this (Int32.toInt_inj.mp q)
          omega
      · exact Or.inl (by omega)
    clear eS140
    refine mv_iconst (pc := 140) (v := 0) B d_Exprs_operand_140 (by decide) ?_
    exact mv_iret (pc := 141) B hr rfl d_Exprs_operand_141 (Nat.le_refl _) (Nat.le_refl _) ⟨_, rfl, hF, hX.1.2.2.2.1, Or.inl rfl, hend⟩
  refine ⟨fun h9 => ?_, fun h9n45 => ?_⟩
  · skip
    have h9 : v4 = 45 := Int32.toInt_inj.mp (show v4.toInt = (45 : Int32).toInt from h9)
    subst h9
    refine mv_aload_n (pc := 76) B d_Exprs_operand_76 rfl 1 rfl ?_
    refine mv_sipush (pc := 77) (v := 305) B d_Exprs_operand_77 (by decide) ?_
    refine mv_aload_n (pc := 80) B d_Exprs_operand_80 rfl 1 rfl ?_
    refine mv_getR (pc := 81) (ci := 6) (C := R_Exprs) (T := F_Exprs) (N := 11) B 0 rfl rfl (by decide) i_Exprs (B.2.2.2.1 _ k_193) rfl (hR.1 _ 0 _ rfl) d_Exprs_operand_81 ?_
    refine mv_iload_n (pc := 84) B d_Exprs_operand_84 rfl 0 rfl ?_
    refine mv_callVi (pc := 85) (n := 1) (ci := 2) (C := R_Tokens) B (mK_ok sk sv) hNs rfl rfl (c_Tokens_openN l hi _ _ hR.1 (hB0.rf hF hP ht2).2.1 (by omega) (by omega) (by decide)) rfl (ma_goodc kc_Tokens_open) (B.2.2.2.1 _ k_1415) (B.2.2.2.1 _ k_1350) (B.2.2.2.1 _ k_1351) (B.2.2.2.1 _ k_3) ⟨by decide +kernel, by decide +kernel, by decide +kernel⟩ rfl d_Exprs_operand_85 rfl (Nat.le_of_ble_eq_true rfl) ⟨by decide, by decide⟩ ⟨by decide, by decide⟩ ⟨by decide, by decide⟩ (mv_noH hno _) (fun v85 σ85 h85 => ?_)
    obtain ⟨a85, w85, e85, r85⟩ := h85
    have q85 := r85.1
    have z85 := fun q => (r85.2.1 q).1
    have y85 := And.intro r85.2.2.2.1 r85.2.2.2.2.1
    subst e85
    refine mv_gen (fun S88 eS88 => ?_)
    have hR : Rw 48 (mv_r S88) := by rw [eS88]; exact hR
    have hF : RF 48 σ S88 := by rw [eS88]; exact hF.tk3 _ _ _
    have hX : XM 48 th e0 bs BL f0 g0 ns S88 (ms) (sm wt ms) (sm wr ms) (s0) := by rw [eS88]; exact hX.tk3 hP _ _ _
    have t7 : (mv_i S88 3 7).toInt = a85.toInt := by rw [eS88]; rfl
    have t8 : (mv_i S88 3 8).toInt = (mv_i σ 3 8).toInt + 1 := by rw [eS88]; first | exact t8 | exact (sub_one (by omega)).trans (by omega) | exact (i32_inc (by omega)).trans (by omega)
    have t9 : (mv_i S88 3 9).toInt = w85.toInt := by rw [eS88]; rfl
    have kS88 : mv_a S88 4 = mv_a σ 4 := by rw [eS88]; first | rfl | exact kp
    have kp := kS88
    clear eS88
    refine mv_callVv (pc := 88) (n := 2) (ci := 6) (C := R_Exprs) B (mK_ok sk sv) hNs rfl rfl (c_Exprs_mark l hi _ _ _ hR.1 (by have := hX.1.1; omega) (by have := hX.1.1; omega)) rfl (ma_goodc kc_Exprs_mark) (B.2.2.2.1 _ k_1416) (B.2.2.2.1 _ k_1418) (B.2.2.2.1 _ ks_48) (B.2.2.2.1 _ k_7) ⟨by decide +kernel, by decide +kernel, by decide +kernel⟩ rfl d_Exprs_operand_88 rfl (Nat.le_of_ble_eq_true rfl) ⟨by decide, by decide⟩ ⟨by decide, by decide⟩ ⟨by decide, by decide⟩ (mv_noH hno _) (fun σ88 h88 => ?_)
    subst h88
    refine mv_gen (fun S91 eS91 => ?_)
    have hR : Rw 48 (mv_r S91) := by rw [eS91]; exact hR
    have hF : RF 48 σ S91 := by rw [eS91]; exact hF.mark _ _
    have hX : XM 48 th e0 bs BL f0 g0 ns S91 (((305, 0) : Mk) :: ms) (sm wt ms) (sm wr ms) (s0) := by rw [eS91]; exact hX.mark hP (by omega) ⟨y85.1, by omega⟩ (by decide) (fun q => absurd q (by decide))
    have t7 := Eq.trans (congrArg Int32.toInt (show mv_i S91 3 7 = mv_i _ 3 7 by rw [eS91]; rfl)) t7
    have t8 := Eq.trans (congrArg Int32.toInt (show mv_i S91 3 8 = mv_i _ 3 8 by rw [eS91]; rfl)) t8
    have t9 := Eq.trans (congrArg Int32.toInt (show mv_i S91 3 9 = mv_i _ 3 9 by rw [eS91]; rfl)) t9
    have kp := Eq.trans (show mv_a S91 4 = mv_a _ 4 by rw [eS91]; rfl) kp
    have y1 : sm wt (((305, 0) : Mk) :: ms) = wt (305, 0) + sm wt ms := rfl
    have y2 : sm wr (((305, 0) : Mk) :: ms) = wr (305, 0) + sm wr ms := rfl
    have y3 : sm wd (((305, 0) : Mk) :: ms) = wd (305, 0) + sm wd ms := rfl
    have y4 : sm wc (((305, 0) : Mk) :: ms) = wc (305, 0) + sm wc ms := rfl
    have x1 := (show wt (305, 0) = 0 by decide)
    have x2 := (show wr (305, 0) = 0 by decide)
    have x3 := (show wd (305, 0) = 1 by decide)
    have x4 := (show wc (305, 0) = 1 by decide)
    have hend : 0 ≤ (mv_i S91 3 9).toInt ∨ ∃ ms2 s2 a2, a < a2 ∧ XM 48 th e0 bs BL f0 g0 ns S91 (ms2) (sm wt ms2 + (0 : Int32).toNatClampNeg) (sm wr ms2 + (0 : Int32).toNatClampNeg) (s2) ∧ TI S91 sz bd ms2 s2 a2 := by
      by_cases hw : (mv_i S91 3 9).toInt < 0
      · refine Or.inr ⟨((305, 0) : Mk) :: ms, s0, a + 1, by omega, ?_, by omega, hw, by omega, ?_, by omega, by omega, (hWm.up (by omega)).cons (fun q => ⟨by show 0 ≤ (0 : Int32).toInt; decide, by show (0 : Int) ≤ ((a + 1 : Nat) : Int); omega⟩)⟩
        · rw [y1, y2, x1, x2, Nat.zero_add, Nat.zero_add]
          exact hX
        · have := (r85.2.1 (by omega)).2.2.1
          have : ¬ (mv_i σ 3 8).toInt = 60 := fun q => this (Int32.toInt_inj.mp q)
          omega
      · exact Or.inl (by omega)
    clear eS91
    refine mv_iconst (pc := 91) (v := 0) B d_Exprs_operand_91 (by decide) ?_
    exact mv_iret (pc := 92) B hr rfl d_Exprs_operand_92 (Nat.le_refl _) (Nat.le_refl _) ⟨_, rfl, hF, hX.1.2.2.2.1, Or.inl rfl, hend⟩
  refine ⟨fun h9 => ?_, fun h9n123 => ?_⟩
  · skip
    have h9 : v4 = 123 := Int32.toInt_inj.mp (show v4.toInt = (123 : Int32).toInt from h9)
    have hq9 : (v4 = 40 ∨ v4 = 123) := by first | exact Or.inl h9 | exact Or.inr h9
    have hkn : ¬ v4 = 0 ∧ ¬ v4 = 1 ∧ ¬ v4 = 2 := by rcases hq9 with rfl | rfl <;> decide
    have hkm : ¬ v4 = 63 ∧ ¬ v4 = 58 ∧ ¬ v4 = 91 := by rcases hq9 with rfl | rfl <;> decide
    have hkl : lvl v4 = 0 := by rcases hq9 with rfl | rfl <;> decide
    have hkw : wt (v4, 0) = 0 ∧ wr (v4, 0) = 0 ∧ wc (v4, 0) = 0 ∧ wd (v4, 0) = 1 := by rcases hq9 with rfl | rfl <;> decide
    refine mv_aload_n (pc := 127) B d_Exprs_operand_127 rfl 1 rfl ?_
    refine mv_iload_n (pc := 128) B d_Exprs_operand_128 rfl 0 rfl ?_
    refine mv_aload_n (pc := 129) B d_Exprs_operand_129 rfl 1 rfl ?_
    refine mv_getR (pc := 130) (ci := 6) (C := R_Exprs) (T := F_Exprs) (N := 11) B 0 rfl rfl (by decide) i_Exprs (B.2.2.2.1 _ k_193) rfl (hR.1 _ 0 _ rfl) d_Exprs_operand_130 ?_
    refine mv_iload_n (pc := 133) B d_Exprs_operand_133 rfl 0 rfl ?_
    refine mv_callVi (pc := 134) (n := 1) (ci := 2) (C := R_Tokens) B (mK_ok sk sv) hNs rfl rfl (c_Tokens_openN l hi _ _ hR.1 (hB0.rf hF hP ht2).2.1 (by omega) (by omega) hkn) rfl (ma_goodc kc_Tokens_open) (B.2.2.2.1 _ k_1415) (B.2.2.2.1 _ k_1350) (B.2.2.2.1 _ k_1351) (B.2.2.2.1 _ k_3) ⟨by decide +kernel, by decide +kernel, by decide +kernel⟩ rfl d_Exprs_operand_134 rfl (Nat.le_of_ble_eq_true rfl) ⟨by decide, by decide⟩ ⟨by decide, by decide⟩ ⟨by decide, by decide⟩ (mv_noH hno _) (fun v134 σ134 h134 => ?_)
    obtain ⟨a134, w134, e134, r134⟩ := h134
    have q134 := r134.1
    have z134 := fun q => (r134.2.1 q).1
    have y134 := And.intro r134.2.2.2.1 r134.2.2.2.2.1
    subst e134
    refine mv_gen (fun S137 eS137 => ?_)
    have hR : Rw 48 (mv_r S137) := by rw [eS137]; exact hR
    have hF : RF 48 σ S137 := by rw [eS137]; exact hF.tk3 _ _ _
    have hX : XM 48 th e0 bs BL f0 g0 ns S137 (ms) (sm wt ms) (sm wr ms) (s0) := by rw [eS137]; exact hX.tk3 hP _ _ _
    have t7 : (mv_i S137 3 7).toInt = a134.toInt := by rw [eS137]; rfl
    have t8 : (mv_i S137 3 8).toInt = (mv_i σ 3 8).toInt + 1 := by rw [eS137]; first | exact t8 | exact (sub_one (by omega)).trans (by omega) | exact (i32_inc (by omega)).trans (by omega)
    have t9 : (mv_i S137 3 9).toInt = w134.toInt := by rw [eS137]; rfl
    have kS137 : mv_a S137 4 = mv_a σ 4 := by rw [eS137]; first | rfl | exact kp
    have kp := kS137
    clear eS137
    refine mv_callVv (pc := 137) (n := 2) (ci := 6) (C := R_Exprs) B (mK_ok sk sv) hNs rfl rfl (c_Exprs_mark l hi _ _ _ hR.1 (by have := hX.1.1; omega) (by have := hX.1.1; omega)) rfl (ma_goodc kc_Exprs_mark) (B.2.2.2.1 _ k_1416) (B.2.2.2.1 _ k_1418) (B.2.2.2.1 _ ks_48) (B.2.2.2.1 _ k_7) ⟨by decide +kernel, by decide +kernel, by decide +kernel⟩ rfl d_Exprs_operand_137 rfl (Nat.le_of_ble_eq_true rfl) ⟨by decide, by decide⟩ ⟨by decide, by decide⟩ ⟨by decide, by decide⟩ (mv_noH hno _) (fun σ137 h137 => ?_)
    subst h137
    refine mv_gen (fun S140 eS140 => ?_)
    have hR : Rw 48 (mv_r S140) := by rw [eS140]; exact hR
    have hF : RF 48 σ S140 := by rw [eS140]; exact hF.mark _ _
    have hX : XM 48 th e0 bs BL f0 g0 ns S140 (((v4, 0) : Mk) :: ms) (sm wt ms) (sm wr ms) (s0) := by rw [eS140]; exact hX.mark hP (by omega) ⟨y134.1, by omega⟩ hkm (fun q => by omega)
    have t7 := Eq.trans (congrArg Int32.toInt (show mv_i S140 3 7 = mv_i _ 3 7 by rw [eS140]; rfl)) t7
    have t8 := Eq.trans (congrArg Int32.toInt (show mv_i S140 3 8 = mv_i _ 3 8 by rw [eS140]; rfl)) t8
    have t9 := Eq.trans (congrArg Int32.toInt (show mv_i S140 3 9 = mv_i _ 3 9 by rw [eS140]; rfl)) t9
    have kp := Eq.trans (show mv_a S140 4 = mv_a _ 4 by rw [eS140]; rfl) kp
    have y1 : sm wt (((v4, 0) : Mk) :: ms) = wt (v4, 0) + sm wt ms := rfl
    have y2 : sm wr (((v4, 0) : Mk) :: ms) = wr (v4, 0) + sm wr ms := rfl
    have y3 : sm wd (((v4, 0) : Mk) :: ms) = wd (v4, 0) + sm wd ms := rfl
    have y4 : sm wc (((v4, 0) : Mk) :: ms) = wc (v4, 0) + sm wc ms := rfl
    have x1 := hkw.1
    have x2 := hkw.2.1
    have x3 := hkw.2.2.2
    have x4 := hkw.2.2.1
    have hend : 0 ≤ (mv_i S140 3 9).toInt ∨ ∃ ms2 s2 a2, a < a2 ∧ XM 48 th e0 bs BL f0 g0 ns S140 (ms2) (sm wt ms2 + (0 : Int32).toNatClampNeg) (sm wr ms2 + (0 : Int32).toNatClampNeg) (s2) ∧ TI S140 sz bd ms2 s2 a2 := by
      by_cases hw : (mv_i S140 3 9).toInt < 0
      · refine Or.inr ⟨((v4, 0) : Mk) :: ms, s0, a + 1, by omega, ?_, by omega, hw, by omega, ?_, by omega, by omega, (hWm.up (by omega)).cons (fun q => ⟨by show 0 ≤ (0 : Int32).toInt; decide, by show (0 : Int) ≤ ((a + 1 : Nat) : Int); omega⟩)⟩
        · rw [y1, y2, x1, x2, Nat.zero_add, Nat.zero_add]
          exact hX
        · have := (r134.2.1 (by omega)).2.2.1
          have : ¬ (mv_i σ 3 8).toInt = 60 := fun q => this (Int32.toInt_inj.mp q)
          omega
      · exact Or.inl (by omega)
    clear eS140
    refine mv_iconst (pc := 140) (v := 0) B d_Exprs_operand_140 (by decide) ?_
    exact mv_iret (pc := 141) B hr rfl d_Exprs_operand_141 (Nat.le_refl _) (Nat.le_refl _) ⟨_, rfl, hF, hX.1.2.2.2.1, Or.inl rfl, hend⟩
  refine ⟨fun h9 => ?_, fun h9n126 => ?_⟩
  · skip
    have h9 : v4 = 126 := Int32.toInt_inj.mp (show v4.toInt = (126 : Int32).toInt from h9)
    subst h9
    refine mv_aload_n (pc := 93) B d_Exprs_operand_93 rfl 1 rfl ?_
    refine mv_sipush (pc := 94) (v := 306) B d_Exprs_operand_94 (by decide) ?_
    refine mv_aload_n (pc := 97) B d_Exprs_operand_97 rfl 1 rfl ?_
    refine mv_getR (pc := 98) (ci := 6) (C := R_Exprs) (T := F_Exprs) (N := 11) B 0 rfl rfl (by decide) i_Exprs (B.2.2.2.1 _ k_193) rfl (hR.1 _ 0 _ rfl) d_Exprs_operand_98 ?_
    refine mv_iload_n (pc := 101) B d_Exprs_operand_101 rfl 0 rfl ?_
    refine mv_callVi (pc := 102) (n := 1) (ci := 2) (C := R_Tokens) B (mK_ok sk sv) hNs rfl rfl (c_Tokens_openN l hi _ _ hR.1 (hB0.rf hF hP ht2).2.1 (by omega) (by omega) (by decide)) rfl (ma_goodc kc_Tokens_open) (B.2.2.2.1 _ k_1415) (B.2.2.2.1 _ k_1350) (B.2.2.2.1 _ k_1351) (B.2.2.2.1 _ k_3) ⟨by decide +kernel, by decide +kernel, by decide +kernel⟩ rfl d_Exprs_operand_102 rfl (Nat.le_of_ble_eq_true rfl) ⟨by decide, by decide⟩ ⟨by decide, by decide⟩ ⟨by decide, by decide⟩ (mv_noH hno _) (fun v102 σ102 h102 => ?_)
    obtain ⟨a102, w102, e102, r102⟩ := h102
    have q102 := r102.1
    have z102 := fun q => (r102.2.1 q).1
    have y102 := And.intro r102.2.2.2.1 r102.2.2.2.2.1
    subst e102
    refine mv_gen (fun S105 eS105 => ?_)
    have hR : Rw 48 (mv_r S105) := by rw [eS105]; exact hR
    have hF : RF 48 σ S105 := by rw [eS105]; exact hF.tk3 _ _ _
    have hX : XM 48 th e0 bs BL f0 g0 ns S105 (ms) (sm wt ms) (sm wr ms) (s0) := by rw [eS105]; exact hX.tk3 hP _ _ _
    have t7 : (mv_i S105 3 7).toInt = a102.toInt := by rw [eS105]; rfl
    have t8 : (mv_i S105 3 8).toInt = (mv_i σ 3 8).toInt + 1 := by rw [eS105]; first | exact t8 | exact (sub_one (by omega)).trans (by omega) | exact (i32_inc (by omega)).trans (by omega)
    have t9 : (mv_i S105 3 9).toInt = w102.toInt := by rw [eS105]; rfl
    have kS105 : mv_a S105 4 = mv_a σ 4 := by rw [eS105]; first | rfl | exact kp
    have kp := kS105
    clear eS105
    refine mv_callVv (pc := 105) (n := 2) (ci := 6) (C := R_Exprs) B (mK_ok sk sv) hNs rfl rfl (c_Exprs_mark l hi _ _ _ hR.1 (by have := hX.1.1; omega) (by have := hX.1.1; omega)) rfl (ma_goodc kc_Exprs_mark) (B.2.2.2.1 _ k_1416) (B.2.2.2.1 _ k_1418) (B.2.2.2.1 _ ks_48) (B.2.2.2.1 _ k_7) ⟨by decide +kernel, by decide +kernel, by decide +kernel⟩ rfl d_Exprs_operand_105 rfl (Nat.le_of_ble_eq_true rfl) ⟨by decide, by decide⟩ ⟨by decide, by decide⟩ ⟨by decide, by decide⟩ (mv_noH hno _) (fun σ105 h105 => ?_)
    subst h105
    refine mv_gen (fun S108 eS108 => ?_)
    have hR : Rw 48 (mv_r S108) := by rw [eS108]; exact hR
    have hF : RF 48 σ S108 := by rw [eS108]; exact hF.mark _ _
    have hX : XM 48 th e0 bs BL f0 g0 ns S108 (((306, 0) : Mk) :: ms) (sm wt ms) (sm wr ms) (s0) := by rw [eS108]; exact hX.mark hP (by omega) ⟨y102.1, by omega⟩ (by decide) (fun q => absurd q (by decide))
    have t7 := Eq.trans (congrArg Int32.toInt (show mv_i S108 3 7 = mv_i _ 3 7 by rw [eS108]; rfl)) t7
    have t8 := Eq.trans (congrArg Int32.toInt (show mv_i S108 3 8 = mv_i _ 3 8 by rw [eS108]; rfl)) t8
    have t9 := Eq.trans (congrArg Int32.toInt (show mv_i S108 3 9 = mv_i _ 3 9 by rw [eS108]; rfl)) t9
    have kp := Eq.trans (show mv_a S108 4 = mv_a _ 4 by rw [eS108]; rfl) kp
    have y1 : sm wt (((306, 0) : Mk) :: ms) = wt (306, 0) + sm wt ms := rfl
    have y2 : sm wr (((306, 0) : Mk) :: ms) = wr (306, 0) + sm wr ms := rfl
    have y3 : sm wd (((306, 0) : Mk) :: ms) = wd (306, 0) + sm wd ms := rfl
    have y4 : sm wc (((306, 0) : Mk) :: ms) = wc (306, 0) + sm wc ms := rfl
    have x1 := (show wt (306, 0) = 0 by decide)
    have x2 := (show wr (306, 0) = 0 by decide)
    have x3 := (show wd (306, 0) = 1 by decide)
    have x4 := (show wc (306, 0) = 1 by decide)
    have hend : 0 ≤ (mv_i S108 3 9).toInt ∨ ∃ ms2 s2 a2, a < a2 ∧ XM 48 th e0 bs BL f0 g0 ns S108 (ms2) (sm wt ms2 + (0 : Int32).toNatClampNeg) (sm wr ms2 + (0 : Int32).toNatClampNeg) (s2) ∧ TI S108 sz bd ms2 s2 a2 := by
      by_cases hw : (mv_i S108 3 9).toInt < 0
      · refine Or.inr ⟨((306, 0) : Mk) :: ms, s0, a + 1, by omega, ?_, by omega, hw, by omega, ?_, by omega, by omega, (hWm.up (by omega)).cons (fun q => ⟨by show 0 ≤ (0 : Int32).toInt; decide, by show (0 : Int) ≤ ((a + 1 : Nat) : Int); omega⟩)⟩
        · rw [y1, y2, x1, x2, Nat.zero_add, Nat.zero_add]
          exact hX
        · have := (r102.2.1 (by omega)).2.2.1
          have : ¬ (mv_i σ 3 8).toInt = 60 := fun q => this (Int32.toInt_inj.mp q)
          omega
      · exact Or.inl (by omega)
    clear eS108
    refine mv_iconst (pc := 108) (v := 0) B d_Exprs_operand_108 (by decide) ?_
    exact mv_iret (pc := 109) B hr rfl d_Exprs_operand_109 (Nat.le_refl _) (Nat.le_refl _) ⟨_, rfl, hF, hX.1.2.2.2.1, Or.inl rfl, hend⟩
  show mv_V _ _ _ _ _ _ _ _ _ _ _ _ _ _ _ _ 153 _ _
  refine mv_aload_n (pc := 153) B d_Exprs_operand_153 rfl 1 rfl ?_
  refine mv_iload_n (pc := 154) B d_Exprs_operand_154 rfl 0 rfl ?_
  refine mv_callVv (pc := 155) (n := 1) (ci := 6) (C := R_Exprs) B (mK_ok sk sv) hNs rfl rfl (c_Exprs_call_b l hi _ _ hB0 ht2 hX hI hlen hbs hk3) rfl (ma_goodc kc_Exprs_call) (B.2.2.2.1 _ k_1455) (B.2.2.2.1 _ k_1457) (B.2.2.2.1 _ ks_53) (B.2.2.2.1 _ k_7) ⟨by decide +kernel, by decide +kernel, by decide +kernel⟩ rfl d_Exprs_operand_155 rfl (Nat.le_of_ble_eq_true rfl) ⟨by decide, by decide⟩ ⟨by decide, by decide⟩ ⟨by decide, by decide⟩ (mv_noH hno _) (fun σ155 h155 => ?_)
  refine mv_iconst (pc := 158) (v := 0) B d_Exprs_operand_158 (by decide) ?_
  exact mv_iret (pc := 159) B hr rfl d_Exprs_operand_159 (Nat.le_refl _) (Nat.le_refl _) ⟨_, rfl, h155.1, h155.2.1, Or.inl rfl, h155.2.2⟩
set_option maxHeartbeats 4000000 in
set_option maxRecDepth 100000 in
theorem c_Exprs_operand_c (l : Launch) {dA : FieldType → ClassId} {D : va_G} {al : Nat → Nat} {sk sv : Nat → Nat} (hi : mv_inj (mg dA D al me)) (σ : mv_H) {t len n z sz th sl e0 bs ns : Nat} {BL : (Nat → Nat) → Prop} {f0 : Nat → Int32} {g0 : Nat → Int64} {ms : List Mk} {s0 bd a : Nat} (hB0 : SB 145 σ t len n z sz th sl) (ht2 : t = 1 ∨ t = 144) (hX : XM 145 th e0 bs BL f0 g0 ns σ (ms) (sm wt ms + 0) (sm wr ms + 0) (s0)) (hI : TI σ sz bd ms s0 a) (hlen : len ≤ 8192) (hbs : bs ≤ 1) : mv_C l y_Exprs_operand (Cond.code y_Exprs_operand b_Exprs_operand 2 (Option.some Jvm.ClassFile.FieldType.boolean) :: ma) ({ frames := 4, cells := 0, slots := 0, locals := 90 }) (mg dA D al me) (mK sk sv) [.ref (al 22)] σ (mv_Ri (fun v σ1 => RF 145 σ σ1 ∧ Mt (mv_a σ1 24) ∧ (v = 0 ∨ v = 1) ∧ (0 ≤ (mv_i σ1 3 9).toInt ∨ ∃ ms2 s2 a2, a < a2 ∧ XM 145 th e0 bs BL f0 g0 ns σ1 (ms2) (sm wt ms2 + v.toNatClampNeg) (sm wr ms2 + v.toNatClampNeg) (s2) ∧ TI σ1 sz bd ms2 s2 a2))) := by
  refine mv_C.ofV (cc := b_Exprs_operand) (nL := 2) (ret := (Option.some Jvm.ClassFile.FieldType.boolean)) (by decide +kernel) rfl hi (Nat.le_of_ble_eq_true rfl) ?_
  intro p e s m below meth c B hNs hr hnm hno
  have hP : PQ 145 := by unfold PQ; omega
  have hR := hB0.1
  have hF : RF 145 σ σ := RF0
  have hT : mv_i σ 3 = mv_i σ 3 := rfl
  have hsz := hB0.2.1.2.2.2.2.2
  have hsz2 := hB0.2.1.2.2.2.1
  have hI5 := hI.2.2.2.2.1
  have ha9 := hI.2.2.2.2.2.1
  have pl := hI.len hX
  have hm8 := hX.1.1
  have t7 := hI.1
  have hw9 := hI.2.1
  have t9 : (mv_i σ 3 9).toInt = (mv_i σ 3 9).toInt := rfl
  have hd8 := hI.2.2.1
  have hd9 := hI.2.2.2.1
  have hWm := hI.2.2.2.2.2.2
  have kp : mv_a σ 4 = mv_a σ 4 := rfl
  have t8 : (mv_i σ 3 8).toInt = (mv_i σ 3 8).toInt := rfl
  refine mv_aload_n (pc := 0) B d_Exprs_operand_0 rfl 0 rfl ?_
  refine mv_getR (pc := 1) (ci := 6) (C := R_Exprs) (T := F_Exprs) (N := 11) B 0 rfl rfl (by decide) i_Exprs (B.2.2.2.1 _ k_193) rfl (hR.1 _ 0 _ rfl) d_Exprs_operand_1 ?_
  refine mv_callVi (pc := 4) (n := 0) (ci := 2) (C := R_Tokens) B (mK_ok sk sv) hNs rfl rfl (c_Tokens_kind l hi _ hR.1 (i32_in (by omega) (by omega))) rfl (ma_goodc kc_Tokens_kind) (B.2.2.2.1 _ k_1414) (B.2.2.2.1 _ k_1271) (B.2.2.2.1 _ k_1272) (B.2.2.2.1 _ k_3) ⟨by decide +kernel, by decide +kernel, by decide +kernel⟩ rfl d_Exprs_operand_4 rfl (Nat.le_of_ble_eq_true rfl) ⟨by decide, by decide⟩ ⟨by decide, by decide⟩ ⟨by decide, by decide⟩ (mv_noH hno _) (fun v4 σ4 h4 => ?_)
  obtain ⟨e4, z4⟩ := h4
  have e4 := e4.symm
  subst e4
  have hk3 : mv_a σ 4 (mv_i σ 3 7).toNatClampNeg = v4 := (z4.trans (if_pos (lt0.mpr hw9))).symm
  clear z4
  refine mv_istore_n (pc := 7) B d_Exprs_operand_7 rfl (by decide) rfl ?_
  refine mv_iload_n (pc := 8) B d_Exprs_operand_8 rfl 0 rfl ?_
  refine mv_lsw (pc := 9) B d_Exprs_operand_9 (by decide) (by decide) ?_
  refine ⟨fun h9 => ?_, fun h9n3 => ?_⟩
  · skip
    have h9 : v4 = 3 := Int32.toInt_inj.mp (show v4.toInt = (3 : Int32).toInt from h9)
    subst h9
    refine mv_aload_n (pc := 148) B d_Exprs_operand_148 rfl 1 rfl ?_
    refine mv_callVi (pc := 149) (n := 0) (ci := 6) (C := R_Exprs) B (mK_ok sk sv) hNs rfl rfl (c_Exprs_name_c l hi _ hB0 ht2 hX hI hlen hbs hk3) rfl (ma_goodc kc_Exprs_name) (B.2.2.2.1 _ k_1441) (B.2.2.2.1 _ k_1443) (B.2.2.2.1 _ ks_52) (B.2.2.2.1 _ k_7) ⟨by decide +kernel, by decide +kernel, by decide +kernel⟩ rfl d_Exprs_operand_149 rfl (Nat.le_of_ble_eq_true rfl) ⟨by decide, by decide⟩ ⟨by decide, by decide⟩ ⟨by decide, by decide⟩ (mv_noH hno _) (fun v149 σ149 h149 => ?_)
    exact mv_iret (pc := 152) B hr (z_eq h149.2.2.1) d_Exprs_operand_152 (Nat.le_refl _) (Nat.le_refl _) ⟨_, rfl, h149⟩
  refine ⟨fun h9 => ?_, fun h9n4 => ?_⟩
  · skip
    have h9 : v4 = 4 := Int32.toInt_inj.mp (show v4.toInt = (4 : Int32).toInt from h9)
    subst h9
    refine mv_aload_n (pc := 142) B d_Exprs_operand_142 rfl 1 rfl ?_
    refine mv_callVv (pc := 143) (n := 0) (ci := 6) (C := R_Exprs) B (mK_ok sk sv) hNs rfl rfl (c_Exprs_literal_c l hi _ hB0 ht2 hX hI hlen hbs) rfl (ma_goodc kc_Exprs_literal) (B.2.2.2.1 _ k_1420) (B.2.2.2.1 _ k_1422) (B.2.2.2.1 _ ks_49) (B.2.2.2.1 _ k_7) ⟨by decide +kernel, by decide +kernel, by decide +kernel⟩ rfl d_Exprs_operand_143 rfl (Nat.le_of_ble_eq_true rfl) ⟨by decide, by decide⟩ ⟨by decide, by decide⟩ ⟨by decide, by decide⟩ (mv_noH hno _) (fun σ143 h143 => ?_)
    refine mv_iconst (pc := 146) (v := 1) B d_Exprs_operand_146 (by decide) ?_
    exact mv_iret (pc := 147) B hr rfl d_Exprs_operand_147 (Nat.le_refl _) (Nat.le_refl _) ⟨_, rfl, h143.1, h143.2.1, Or.inr rfl, h143.2.2⟩
  refine ⟨fun h9 => ?_, fun h9n33 => ?_⟩
  · skip
    have h9 : v4 = 33 := Int32.toInt_inj.mp (show v4.toInt = (33 : Int32).toInt from h9)
    subst h9
    refine mv_aload_n (pc := 110) B d_Exprs_operand_110 rfl 1 rfl ?_
    refine mv_sipush (pc := 111) (v := 307) B d_Exprs_operand_111 (by decide) ?_
    refine mv_aload_n (pc := 114) B d_Exprs_operand_114 rfl 1 rfl ?_
    refine mv_getR (pc := 115) (ci := 6) (C := R_Exprs) (T := F_Exprs) (N := 11) B 0 rfl rfl (by decide) i_Exprs (B.2.2.2.1 _ k_193) rfl (hR.1 _ 0 _ rfl) d_Exprs_operand_115 ?_
    refine mv_iload_n (pc := 118) B d_Exprs_operand_118 rfl 0 rfl ?_
    refine mv_callVi (pc := 119) (n := 1) (ci := 2) (C := R_Tokens) B (mK_ok sk sv) hNs rfl rfl (c_Tokens_openN l hi _ _ hR.1 (hB0.rf hF hP ht2).2.1 (by omega) (by omega) (by decide)) rfl (ma_goodc kc_Tokens_open) (B.2.2.2.1 _ k_1415) (B.2.2.2.1 _ k_1350) (B.2.2.2.1 _ k_1351) (B.2.2.2.1 _ k_3) ⟨by decide +kernel, by decide +kernel, by decide +kernel⟩ rfl d_Exprs_operand_119 rfl (Nat.le_of_ble_eq_true rfl) ⟨by decide, by decide⟩ ⟨by decide, by decide⟩ ⟨by decide, by decide⟩ (mv_noH hno _) (fun v119 σ119 h119 => ?_)
    obtain ⟨a119, w119, e119, r119⟩ := h119
    have q119 := r119.1
    have z119 := fun q => (r119.2.1 q).1
    have y119 := And.intro r119.2.2.2.1 r119.2.2.2.2.1
    subst e119
    refine mv_gen (fun S122 eS122 => ?_)
    have hR : Rw 145 (mv_r S122) := by rw [eS122]; exact hR
    have hF : RF 145 σ S122 := by rw [eS122]; exact hF.tk3 _ _ _
    have hX : XM 145 th e0 bs BL f0 g0 ns S122 (ms) (sm wt ms) (sm wr ms) (s0) := by rw [eS122]; exact hX.tk3 hP _ _ _
    have t7 : (mv_i S122 3 7).toInt = a119.toInt := by rw [eS122]; rfl
    have t8 : (mv_i S122 3 8).toInt = (mv_i σ 3 8).toInt + 1 := by rw [eS122]; first | exact t8 | exact (sub_one (by omega)).trans (by omega) | exact (i32_inc (by omega)).trans (by omega)
    have t9 : (mv_i S122 3 9).toInt = w119.toInt := by rw [eS122]; rfl
    have kS122 : mv_a S122 4 = mv_a σ 4 := by rw [eS122]; first | rfl | exact kp
    have kp := kS122
    clear eS122
    refine mv_callVv (pc := 122) (n := 2) (ci := 6) (C := R_Exprs) B (mK_ok sk sv) hNs rfl rfl (c_Exprs_mark l hi _ _ _ hR.1 (by have := hX.1.1; omega) (by have := hX.1.1; omega)) rfl (ma_goodc kc_Exprs_mark) (B.2.2.2.1 _ k_1416) (B.2.2.2.1 _ k_1418) (B.2.2.2.1 _ ks_48) (B.2.2.2.1 _ k_7) ⟨by decide +kernel, by decide +kernel, by decide +kernel⟩ rfl d_Exprs_operand_122 rfl (Nat.le_of_ble_eq_true rfl) ⟨by decide, by decide⟩ ⟨by decide, by decide⟩ ⟨by decide, by decide⟩ (mv_noH hno _) (fun σ122 h122 => ?_)
    subst h122
    refine mv_gen (fun S125 eS125 => ?_)
    have hR : Rw 145 (mv_r S125) := by rw [eS125]; exact hR
    have hF : RF 145 σ S125 := by rw [eS125]; exact hF.mark _ _
    have hX : XM 145 th e0 bs BL f0 g0 ns S125 (((307, 0) : Mk) :: ms) (sm wt ms) (sm wr ms) (s0) := by rw [eS125]; exact hX.mark hP (by omega) ⟨y119.1, by omega⟩ (by decide) (fun q => absurd q (by decide))
    have t7 := Eq.trans (congrArg Int32.toInt (show mv_i S125 3 7 = mv_i _ 3 7 by rw [eS125]; rfl)) t7
    have t8 := Eq.trans (congrArg Int32.toInt (show mv_i S125 3 8 = mv_i _ 3 8 by rw [eS125]; rfl)) t8
    have t9 := Eq.trans (congrArg Int32.toInt (show mv_i S125 3 9 = mv_i _ 3 9 by rw [eS125]; rfl)) t9
    have kp := Eq.trans (show mv_a S125 4 = mv_a _ 4 by rw [eS125]; rfl) kp
    have y1 : sm wt (((307, 0) : Mk) :: ms) = wt (307, 0) + sm wt ms := rfl
    have y2 : sm wr (((307, 0) : Mk) :: ms) = wr (307, 0) + sm wr ms := rfl
    have y3 : sm wd (((307, 0) : Mk) :: ms) = wd (307, 0) + sm wd ms := rfl
    have y4 : sm wc (((307, 0) : Mk) :: ms) = wc (307, 0) + sm wc ms := rfl
    have x1 := (show wt (307, 0) = 0 by decide)
    have x2 := (show wr (307, 0) = 0 by decide)
    have x3 := (show wd (307, 0) = 1 by decide)
    have x4 := (show wc (307, 0) = 1 by decide)
    have hend : 0 ≤ (mv_i S125 3 9).toInt ∨ ∃ ms2 s2 a2, a < a2 ∧ XM 145 th e0 bs BL f0 g0 ns S125 (ms2) (sm wt ms2 + (0 : Int32).toNatClampNeg) (sm wr ms2 + (0 : Int32).toNatClampNeg) (s2) ∧ TI S125 sz bd ms2 s2 a2 := by
      by_cases hw : (mv_i S125 3 9).toInt < 0
      · refine Or.inr ⟨((307, 0) : Mk) :: ms, s0, a + 1, by omega, ?_, by omega, hw, by omega, ?_, by omega, by omega, (hWm.up (by omega)).cons (fun q => ⟨by show 0 ≤ (0 : Int32).toInt; decide, by show (0 : Int) ≤ ((a + 1 : Nat) : Int); omega⟩)⟩
        · rw [y1, y2, x1, x2, Nat.zero_add, Nat.zero_add]
          exact hX
        · have := (r119.2.1 (by omega)).2.2.1
          have : ¬ (mv_i σ 3 8).toInt = 60 := fun q => this (Int32.toInt_inj.mp q)
          omega
      · exact Or.inl (by omega)
    clear eS125
    refine mv_iconst (pc := 125) (v := 0) B d_Exprs_operand_125 (by decide) ?_
    exact mv_iret (pc := 126) B hr rfl d_Exprs_operand_126 (Nat.le_refl _) (Nat.le_refl _) ⟨_, rfl, hF, hX.1.2.2.2.1, Or.inl rfl, hend⟩
  refine ⟨fun h9 => ?_, fun h9n40 => ?_⟩
  · skip
    have h9 : v4 = 40 := Int32.toInt_inj.mp (show v4.toInt = (40 : Int32).toInt from h9)
    have hq9 : (v4 = 40 ∨ v4 = 123) := by first | exact Or.inl h9 | exact Or.inr h9
    have hkn : ¬ v4 = 0 ∧ ¬ v4 = 1 ∧ ¬ v4 = 2 := by rcases hq9 with rfl | rfl <;> decide
    have hkm : ¬ v4 = 63 ∧ ¬ v4 = 58 ∧ ¬ v4 = 91 := by rcases hq9 with rfl | rfl <;> decide
    have hkl : lvl v4 = 0 := by rcases hq9 with rfl | rfl <;> decide
    have hkw : wt (v4, 0) = 0 ∧ wr (v4, 0) = 0 ∧ wc (v4, 0) = 0 ∧ wd (v4, 0) = 1 := by rcases hq9 with rfl | rfl <;> decide
    refine mv_aload_n (pc := 127) B d_Exprs_operand_127 rfl 1 rfl ?_
    refine mv_iload_n (pc := 128) B d_Exprs_operand_128 rfl 0 rfl ?_
    refine mv_aload_n (pc := 129) B d_Exprs_operand_129 rfl 1 rfl ?_
    refine mv_getR (pc := 130) (ci := 6) (C := R_Exprs) (T := F_Exprs) (N := 11) B 0 rfl rfl (by decide) i_Exprs (B.2.2.2.1 _ k_193) rfl (hR.1 _ 0 _ rfl) d_Exprs_operand_130 ?_
    refine mv_iload_n (pc := 133) B d_Exprs_operand_133 rfl 0 rfl ?_
    refine mv_callVi (pc := 134) (n := 1) (ci := 2) (C := R_Tokens) B (mK_ok sk sv) hNs rfl rfl (c_Tokens_openN l hi _ _ hR.1 (hB0.rf hF hP ht2).2.1 (by omega) (by omega) hkn) rfl (ma_goodc kc_Tokens_open) (B.2.2.2.1 _ k_1415) (B.2.2.2.1 _ k_1350) (B.2.2.2.1 _ k_1351) (B.2.2.2.1 _ k_3) ⟨by decide +kernel, by decide +kernel, by decide +kernel⟩ rfl d_Exprs_operand_134 rfl (Nat.le_of_ble_eq_true rfl) ⟨by decide, by decide⟩ ⟨by decide, by decide⟩ ⟨by decide, by decide⟩ (mv_noH hno _) (fun v134 σ134 h134 => ?_)
    obtain ⟨a134, w134, e134, r134⟩ := h134
    have q134 := r134.1
    have z134 := fun q => (r134.2.1 q).1
    have y134 := And.intro r134.2.2.2.1 r134.2.2.2.2.1
    subst e134
    refine mv_gen (fun S137 eS137 => ?_)
    have hR : Rw 145 (mv_r S137) := by rw [eS137]; exact hR
    have hF : RF 145 σ S137 := by rw [eS137]; exact hF.tk3 _ _ _
    have hX : XM 145 th e0 bs BL f0 g0 ns S137 (ms) (sm wt ms) (sm wr ms) (s0) := by rw [eS137]; exact hX.tk3 hP _ _ _
    have t7 : (mv_i S137 3 7).toInt = a134.toInt := by rw [eS137]; rfl
    have t8 : (mv_i S137 3 8).toInt = (mv_i σ 3 8).toInt + 1 := by rw [eS137]; first | exact t8 | exact (sub_one (by omega)).trans (by omega) | exact (i32_inc (by omega)).trans (by omega)
    have t9 : (mv_i S137 3 9).toInt = w134.toInt := by rw [eS137]; rfl
    have kS137 : mv_a S137 4 = mv_a σ 4 := by rw [eS137]; first | rfl | exact kp
    have kp := kS137
    clear eS137
    refine mv_callVv (pc := 137) (n := 2) (ci := 6) (C := R_Exprs) B (mK_ok sk sv) hNs rfl rfl (c_Exprs_mark l hi _ _ _ hR.1 (by have := hX.1.1; omega) (by have := hX.1.1; omega)) rfl (ma_goodc kc_Exprs_mark) (B.2.2.2.1 _ k_1416) (B.2.2.2.1 _ k_1418) (B.2.2.2.1 _ ks_48) (B.2.2.2.1 _ k_7) ⟨by decide +kernel, by decide +kernel, by decide +kernel⟩ rfl d_Exprs_operand_137 rfl (Nat.le_of_ble_eq_true rfl) ⟨by decide, by decide⟩ ⟨by decide, by decide⟩ ⟨by decide, by decide⟩ (mv_noH hno _) (fun σ137 h137 => ?_)
    subst h137
    refine mv_gen (fun S140 eS140 => ?_)
    have hR : Rw 145 (mv_r S140) := by rw [eS140]; exact hR
    have hF : RF 145 σ S140 := by rw [eS140]; exact hF.mark _ _
    have hX : XM 145 th e0 bs BL f0 g0 ns S140 (((v4, 0) : Mk) :: ms) (sm wt ms) (sm wr ms) (s0) := by rw [eS140]; exact hX.mark hP (by omega) ⟨y134.1, by omega⟩ hkm (fun q => by omega)
    have t7 := Eq.trans (congrArg Int32.toInt (show mv_i S140 3 7 = mv_i _ 3 7 by rw [eS140]; rfl)) t7
    have t8 := Eq.trans (congrArg Int32.toInt (show mv_i S140 3 8 = mv_i _ 3 8 by rw [eS140]; rfl)) t8
    have t9 := Eq.trans (congrArg Int32.toInt (show mv_i S140 3 9 = mv_i _ 3 9 by rw [eS140]; rfl)) t9
    have kp := Eq.trans (show mv_a S140 4 = mv_a _ 4 by rw [eS140]; rfl) kp
    have y1 : sm wt (((v4, 0) : Mk) :: ms) = wt (v4, 0) + sm wt ms := rfl
    have y2 : sm wr (((v4, 0) : Mk) :: ms) = wr (v4, 0) + sm wr ms := rfl
    have y3 : sm wd (((v4, 0) : Mk) :: ms) = wd (v4, 0) + sm wd ms := rfl
    have y4 : sm wc (((v4, 0) : Mk) :: ms) = wc (v4, 0) + sm wc ms := rfl
    have x1 := hkw.1
    have x2 := hkw.2.1
    have x3 := hkw.2.2.2
    have x4 := hkw.2.2.1
    have hend : 0 ≤ (mv_i S140 3 9).toInt ∨ ∃ ms2 s2 a2, a < a2 ∧ XM 145 th e0 bs BL f0 g0 ns S140 (ms2) (sm wt ms2 + (0 : Int32).toNatClampNeg) (sm wr ms2 + (0 : Int32).toNatClampNeg) (s2) ∧ TI S140 sz bd ms2 s2 a2 := by
      by_cases hw : (mv_i S140 3 9).toInt < 0
      · refine Or.inr ⟨((v4, 0) : Mk) :: ms, s0, a + 1, by omega, ?_, by omega, hw, by omega, ?_, by omega, by omega, (hWm.up (by omega)).cons (fun q => ⟨by show 0 ≤ (0 : Int32).toInt; decide, by show (0 : Int) ≤ ((a + 1 : Nat) : Int); omega⟩)⟩
        · rw [y1, y2, x1, x2, Nat.zero_add, Nat.zero_add]
          exact hX
        · have := (r134.2.1 (by omega)).2.2.1
          have : ¬ (mv_i σ 3 8).toInt = 60 := fun q => this (Int32.toInt_inj.mp q)
          omega
      · exact Or.inl (by omega)
    clear eS140
    refine mv_iconst (pc := 140) (v := 0) B d_Exprs_operand_140 (by decide) ?_
    exact mv_iret (pc := 141) B hr rfl d_Exprs_operand_141 (Nat.le_refl _) (Nat.le_refl _) ⟨_, rfl, hF, hX.1.2.2.2.1, Or.inl rfl, hend⟩
  refine ⟨fun h9 => ?_, fun h9n45 => ?_⟩
  · skip
    have h9 : v4 = 45 := Int32.toInt_inj.mp (show v4.toInt = (45 : Int32).toInt from h9)
    subst h9
    refine mv_aload_n (pc := 76) B d_Exprs_operand_76 rfl 1 rfl ?_
    refine mv_sipush (pc := 77) (v := 305) B d_Exprs_operand_77 (by decide) ?_
    refine mv_aload_n (pc := 80) B d_Exprs_operand_80 rfl 1 rfl ?_
    refine mv_getR (pc := 81) (ci := 6) (C := R_Exprs) (T := F_Exprs) (N := 11) B 0 rfl rfl (by decide) i_Exprs (B.2.2.2.1 _ k_193) rfl (hR.1 _ 0 _ rfl) d_Exprs_operand_81 ?_
    refine mv_iload_n (pc := 84) B d_Exprs_operand_84 rfl 0 rfl ?_
    refine mv_callVi (pc := 85) (n := 1) (ci := 2) (C := R_Tokens) B (mK_ok sk sv) hNs rfl rfl (c_Tokens_openN l hi _ _ hR.1 (hB0.rf hF hP ht2).2.1 (by omega) (by omega) (by decide)) rfl (ma_goodc kc_Tokens_open) (B.2.2.2.1 _ k_1415) (B.2.2.2.1 _ k_1350) (B.2.2.2.1 _ k_1351) (B.2.2.2.1 _ k_3) ⟨by decide +kernel, by decide +kernel, by decide +kernel⟩ rfl d_Exprs_operand_85 rfl (Nat.le_of_ble_eq_true rfl) ⟨by decide, by decide⟩ ⟨by decide, by decide⟩ ⟨by decide, by decide⟩ (mv_noH hno _) (fun v85 σ85 h85 => ?_)
    obtain ⟨a85, w85, e85, r85⟩ := h85
    have q85 := r85.1
    have z85 := fun q => (r85.2.1 q).1
    have y85 := And.intro r85.2.2.2.1 r85.2.2.2.2.1
    subst e85
    refine mv_gen (fun S88 eS88 => ?_)
    have hR : Rw 145 (mv_r S88) := by rw [eS88]; exact hR
    have hF : RF 145 σ S88 := by rw [eS88]; exact hF.tk3 _ _ _
    have hX : XM 145 th e0 bs BL f0 g0 ns S88 (ms) (sm wt ms) (sm wr ms) (s0) := by rw [eS88]; exact hX.tk3 hP _ _ _
    have t7 : (mv_i S88 3 7).toInt = a85.toInt := by rw [eS88]; rfl
    have t8 : (mv_i S88 3 8).toInt = (mv_i σ 3 8).toInt + 1 := by rw [eS88]; first | exact t8 | exact (sub_one (by omega)).trans (by omega) | exact (i32_inc (by omega)).trans (by omega)
    have t9 : (mv_i S88 3 9).toInt = w85.toInt := by rw [eS88]; rfl
    have kS88 : mv_a S88 4 = mv_a σ 4 := by rw [eS88]; first | rfl | exact kp
    have kp := kS88
    clear eS88
    refine mv_callVv (pc := 88) (n := 2) (ci := 6) (C := R_Exprs) B (mK_ok sk sv) hNs rfl rfl (c_Exprs_mark l hi _ _ _ hR.1 (by have := hX.1.1; omega) (by have := hX.1.1; omega)) rfl (ma_goodc kc_Exprs_mark) (B.2.2.2.1 _ k_1416) (B.2.2.2.1 _ k_1418) (B.2.2.2.1 _ ks_48) (B.2.2.2.1 _ k_7) ⟨by decide +kernel, by decide +kernel, by decide +kernel⟩ rfl d_Exprs_operand_88 rfl (Nat.le_of_ble_eq_true rfl) ⟨by decide, by decide⟩ ⟨by decide, by decide⟩ ⟨by decide, by decide⟩ (mv_noH hno _) (fun σ88 h88 => ?_)
    subst h88
    refine mv_gen (fun S91 eS91 => ?_)
    have hR : Rw 145 (mv_r S91) := by rw [eS91]; exact hR
    have hF : RF 145 σ S91 := by rw [eS91]; exact hF.mark _ _
    have hX : XM 145 th e0 bs BL f0 g0 ns S91 (((305, 0) : Mk) :: ms) (sm wt ms) (sm wr ms) (s0) := by rw [eS91]; exact hX.mark hP (by omega) ⟨y85.1, by omega⟩ (by decide) (fun q => absurd q (by decide))
    have t7 := Eq.trans (congrArg Int32.toInt (show mv_i S91 3 7 = mv_i _ 3 7 by rw [eS91]; rfl)) t7
    have t8 := Eq.trans (congrArg Int32.toInt (show mv_i S91 3 8 = mv_i _ 3 8 by rw [eS91]; rfl)) t8
    have t9 := Eq.trans (congrArg Int32.toInt (show mv_i S91 3 9 = mv_i _ 3 9 by rw [eS91]; rfl)) t9
    have kp := Eq.trans (show mv_a S91 4 = mv_a _ 4 by rw [eS91]; rfl) kp
    have y1 : sm wt (((305, 0) : Mk) :: ms) = wt (305, 0) + sm wt ms := rfl
    have y2 : sm wr (((305, 0) : Mk) :: ms) = wr (305, 0) + sm wr ms := rfl
    have y3 : sm wd (((305, 0) : Mk) :: ms) = wd (305, 0) + sm wd ms := rfl
    have y4 : sm wc (((305, 0) : Mk) :: ms) = wc (305, 0) + sm wc ms := rfl
    have x1 := (show wt (305, 0) = 0 by decide)
    have x2 := (show wr (305, 0) = 0 by decide)
    have x3 := (show wd (305, 0) = 1 by decide)
    have x4 := (show wc (305, 0) = 1 by decide)
    have hend : 0 ≤ (mv_i S91 3 9).toInt ∨ ∃ ms2 s2 a2, a < a2 ∧ XM 145 th e0 bs BL f0 g0 ns S91 (ms2) (sm wt ms2 + (0 : Int32).toNatClampNeg) (sm wr ms2 + (0 : Int32).toNatClampNeg) (s2) ∧ TI S91 sz bd ms2 s2 a2 := by
      by_cases hw : (mv_i S91 3 9).toInt < 0
      · refine Or.inr ⟨((305, 0) : Mk) :: ms, s0, a + 1, by omega, ?_, by omega, hw, by omega, ?_, by omega, by omega, (hWm.up (by omega)).cons (fun q => ⟨by show 0 ≤ (0 : Int32).toInt; decide, by show (0 : Int) ≤ ((a + 1 : Nat) : Int); omega⟩)⟩
        · rw [y1, y2, x1, x2, Nat.zero_add, Nat.zero_add]
          exact hX
        · have := (r85.2.1 (by omega)).2.2.1
          have : ¬ (mv_i σ 3 8).toInt = 60 := fun q => this (Int32.toInt_inj.mp q)
          omega
      · exact Or.inl (by omega)
    clear eS91
    refine mv_iconst (pc := 91) (v := 0) B d_Exprs_operand_91 (by decide) ?_
    exact mv_iret (pc := 92) B hr rfl d_Exprs_operand_92 (Nat.le_refl _) (Nat.le_refl _) ⟨_, rfl, hF, hX.1.2.2.2.1, Or.inl rfl, hend⟩
  refine ⟨fun h9 => ?_, fun h9n123 => ?_⟩
  · skip
    have h9 : v4 = 123 := Int32.toInt_inj.mp (show v4.toInt = (123 : Int32).toInt from h9)
    have hq9 : (v4 = 40 ∨ v4 = 123) := by first | exact Or.inl h9 | exact Or.inr h9
    have hkn : ¬ v4 = 0 ∧ ¬ v4 = 1 ∧ ¬ v4 = 2 := by rcases hq9 with rfl | rfl <;> decide
    have hkm : ¬ v4 = 63 ∧ ¬ v4 = 58 ∧ ¬ v4 = 91 := by rcases hq9 with rfl | rfl <;> decide
    have hkl : lvl v4 = 0 := by rcases hq9 with rfl | rfl <;> decide
    have hkw : wt (v4, 0) = 0 ∧ wr (v4, 0) = 0 ∧ wc (v4, 0) = 0 ∧ wd (v4, 0) = 1 := by rcases hq9 with rfl | rfl <;> decide
    refine mv_aload_n (pc := 127) B d_Exprs_operand_127 rfl 1 rfl ?_
    refine mv_iload_n (pc := 128) B d_Exprs_operand_128 rfl 0 rfl ?_
    refine mv_aload_n (pc := 129) B d_Exprs_operand_129 rfl 1 rfl ?_
    refine mv_getR (pc := 130) (ci := 6) (C := R_Exprs) (T := F_Exprs) (N := 11) B 0 rfl rfl (by decide) i_Exprs (B.2.2.2.1 _ k_193) rfl (hR.1 _ 0 _ rfl) d_Exprs_operand_130 ?_
    refine mv_iload_n (pc := 133) B d_Exprs_operand_133 rfl 0 rfl ?_
    refine mv_callVi (pc := 134) (n := 1) (ci := 2) (C := R_Tokens) B (mK_ok sk sv) hNs rfl rfl (c_Tokens_openN l hi _ _ hR.1 (hB0.rf hF hP ht2).2.1 (by omega) (by omega) hkn) rfl (ma_goodc kc_Tokens_open) (B.2.2.2.1 _ k_1415) (B.2.2.2.1 _ k_1350) (B.2.2.2.1 _ k_1351) (B.2.2.2.1 _ k_3) ⟨by decide +kernel, by decide +kernel, by decide +kernel⟩ rfl d_Exprs_operand_134 rfl (Nat.le_of_ble_eq_true rfl) ⟨by decide, by decide⟩ ⟨by decide, by decide⟩ ⟨by decide, by decide⟩ (mv_noH hno _) (fun v134 σ134 h134 => ?_)
    obtain ⟨a134, w134, e134, r134⟩ := h134
    have q134 := r134.1
    have z134 := fun q => (r134.2.1 q).1
    have y134 := And.intro r134.2.2.2.1 r134.2.2.2.2.1
    subst e134
    refine mv_gen (fun S137 eS137 => ?_)
    have hR : Rw 145 (mv_r S137) := by rw [eS137]; exact hR
    have hF : RF 145 σ S137 := by rw [eS137]; exact hF.tk3 _ _ _
    have hX : XM 145 th e0 bs BL f0 g0 ns S137 (ms) (sm wt ms) (sm wr ms) (s0) := by rw [eS137]; exact hX.tk3 hP _ _ _
    have t7 : (mv_i S137 3 7).toInt = a134.toInt := by rw [eS137]; rfl
    have t8 : (mv_i S137 3 8).toInt = (mv_i σ 3 8).toInt + 1 := by rw [eS137]; first | exact t8 | exact (sub_one (by omega)).trans (by omega) | exact (i32_inc (by omega)).trans (by omega)
    have t9 : (mv_i S137 3 9).toInt = w134.toInt := by rw [eS137]; rfl
    have kS137 : mv_a S137 4 = mv_a σ 4 := by rw [eS137]; first | rfl | exact kp
    have kp := kS137
    clear eS137
    refine mv_callVv (pc := 137) (n := 2) (ci := 6) (C := R_Exprs) B (mK_ok sk sv) hNs rfl rfl (c_Exprs_mark l hi _ _ _ hR.1 (by have := hX.1.1; omega) (by have := hX.1.1; omega)) rfl (ma_goodc kc_Exprs_mark) (B.2.2.2.1 _ k_1416) (B.2.2.2.1 _ k_1418) (B.2.2.2.1 _ ks_48) (B.2.2.2.1 _ k_7) ⟨by decide +kernel, by decide +kernel, by decide +kernel⟩ rfl d_Exprs_operand_137 rfl (Nat.le_of_ble_eq_true rfl) ⟨by decide, by decide⟩ ⟨by decide, by decide⟩ ⟨by decide, by decide⟩ (mv_noH hno _) (fun σ137 h137 => ?_)
    subst h137
    refine mv_gen (fun S140 eS140 => ?_)
    have hR : Rw 145 (mv_r S140) := by rw [eS140]; exact hR
    have hF : RF 145 σ S140 := by rw [eS140]; exact hF.mark _ _
    have hX : XM 145 th e0 bs BL f0 g0 ns S140 (((v4, 0) : Mk) :: ms) (sm wt ms) (sm wr ms) (s0) := by rw [eS140]; exact hX.mark hP (by omega) ⟨y134.1, by omega⟩ hkm (fun q => by omega)
    have t7 := Eq.trans (congrArg Int32.toInt (show mv_i S140 3 7 = mv_i _ 3 7 by rw [eS140]; rfl)) t7
    have t8 := Eq.trans (congrArg Int32.toInt (show mv_i S140 3 8 = mv_i _ 3 8 by rw [eS140]; rfl)) t8
    have t9 := Eq.trans (congrArg Int32.toInt (show mv_i S140 3 9 = mv_i _ 3 9 by rw [eS140]; rfl)) t9
    have kp := Eq.trans (show mv_a S140 4 = mv_a _ 4 by rw [eS140]; rfl) kp
    have y1 : sm wt (((v4, 0) : Mk) :: ms) = wt (v4, 0) + sm wt ms := rfl
    have y2 : sm wr (((v4, 0) : Mk) :: ms) = wr (v4, 0) + sm wr ms := rfl
    have y3 : sm wd (((v4, 0) : Mk) :: ms) = wd (v4, 0) + sm wd ms := rfl
    have y4 : sm wc (((v4, 0) : Mk) :: ms) = wc (v4, 0) + sm wc ms := rfl
    have x1 := hkw.1
    have x2 := hkw.2.1
    have x3 := hkw.2.2.2
    have x4 := hkw.2.2.1
    have hend : 0 ≤ (mv_i S140 3 9).toInt ∨ ∃ ms2 s2 a2, a < a2 ∧ XM 145 th e0 bs BL f0 g0 ns S140 (ms2) (sm wt ms2 + (0 : Int32).toNatClampNeg) (sm wr ms2 + (0 : Int32).toNatClampNeg) (s2) ∧ TI S140 sz bd ms2 s2 a2 := by
      by_cases hw : (mv_i S140 3 9).toInt < 0
      · refine Or.inr ⟨((v4, 0) : Mk) :: ms, s0, a + 1, by omega, ?_, by omega, hw, by omega, ?_, by omega, by omega, (hWm.up (by omega)).cons (fun q => ⟨by show 0 ≤ (0 : Int32).toInt; decide, by show (0 : Int) ≤ ((a + 1 : Nat) : Int); omega⟩)⟩
        · rw [y1, y2, x1, x2, Nat.zero_add, Nat.zero_add]
          exact hX
        · have := (r134.2.1 (by omega)).2.2.1
          have : ¬ (mv_i σ 3 8).toInt = 60 := fun q => this (Int32.toInt_inj.mp q)
          omega
      · exact Or.inl (by omega)
    clear eS140
    refine mv_iconst (pc := 140) (v := 0) B d_Exprs_operand_140 (by decide) ?_
    exact mv_iret (pc := 141) B hr rfl d_Exprs_operand_141 (Nat.le_refl _) (Nat.le_refl _) ⟨_, rfl, hF, hX.1.2.2.2.1, Or.inl rfl, hend⟩
  refine ⟨fun h9 => ?_, fun h9n126 => ?_⟩
  · skip
    have h9 : v4 = 126 := Int32.toInt_inj.mp (show v4.toInt = (126 : Int32).toInt from h9)
    subst h9
    refine mv_aload_n (pc := 93) B d_Exprs_operand_93 rfl 1 rfl ?_
    refine mv_sipush (pc := 94) (v := 306) B d_Exprs_operand_94 (by decide) ?_
    refine mv_aload_n (pc := 97) B d_Exprs_operand_97 rfl 1 rfl ?_
    refine mv_getR (pc := 98) (ci := 6) (C := R_Exprs) (T := F_Exprs) (N := 11) B 0 rfl rfl (by decide) i_Exprs (B.2.2.2.1 _ k_193) rfl (hR.1 _ 0 _ rfl) d_Exprs_operand_98 ?_
    refine mv_iload_n (pc := 101) B d_Exprs_operand_101 rfl 0 rfl ?_
    refine mv_callVi (pc := 102) (n := 1) (ci := 2) (C := R_Tokens) B (mK_ok sk sv) hNs rfl rfl (c_Tokens_openN l hi _ _ hR.1 (hB0.rf hF hP ht2).2.1 (by omega) (by omega) (by decide)) rfl (ma_goodc kc_Tokens_open) (B.2.2.2.1 _ k_1415) (B.2.2.2.1 _ k_1350) (B.2.2.2.1 _ k_1351) (B.2.2.2.1 _ k_3) ⟨by decide +kernel, by decide +kernel, by decide +kernel⟩ rfl d_Exprs_operand_102 rfl (Nat.le_of_ble_eq_true rfl) ⟨by decide, by decide⟩ ⟨by decide, by decide⟩ ⟨by decide, by decide⟩ (mv_noH hno _) (fun v102 σ102 h102 => ?_)
    obtain ⟨a102, w102, e102, r102⟩ := h102
    have q102 := r102.1
    have z102 := fun q => (r102.2.1 q).1
    have y102 := And.intro r102.2.2.2.1 r102.2.2.2.2.1
    subst e102
    refine mv_gen (fun S105 eS105 => ?_)
    have hR : Rw 145 (mv_r S105) := by rw [eS105]; exact hR
    have hF : RF 145 σ S105 := by rw [eS105]; exact hF.tk3 _ _ _
    have hX : XM 145 th e0 bs BL f0 g0 ns S105 (ms) (sm wt ms) (sm wr ms) (s0) := by rw [eS105]; exact hX.tk3 hP _ _ _
    have t7 : (mv_i S105 3 7).toInt = a102.toInt := by rw [eS105]; rfl
    have t8 : (mv_i S105 3 8).toInt = (mv_i σ 3 8).toInt + 1 := by rw [eS105]; first | exact t8 | exact (sub_one (by omega)).trans (by omega) | exact (i32_inc (by omega)).trans (by omega)
    have t9 : (mv_i S105 3 9).toInt = w102.toInt := by rw [eS105]; rfl
    have kS105 : mv_a S105 4 = mv_a σ 4 := by rw [eS105]; first | rfl | exact kp
    have kp := kS105
    clear eS105
    refine mv_callVv (pc := 105) (n := 2) (ci := 6) (C := R_Exprs) B (mK_ok sk sv) hNs rfl rfl (c_Exprs_mark l hi _ _ _ hR.1 (by have := hX.1.1; omega) (by have := hX.1.1; omega)) rfl (ma_goodc kc_Exprs_mark) (B.2.2.2.1 _ k_1416) (B.2.2.2.1 _ k_1418) (B.2.2.2.1 _ ks_48) (B.2.2.2.1 _ k_7) ⟨by decide +kernel, by decide +kernel, by decide +kernel⟩ rfl d_Exprs_operand_105 rfl (Nat.le_of_ble_eq_true rfl) ⟨by decide, by decide⟩ ⟨by decide, by decide⟩ ⟨by decide, by decide⟩ (mv_noH hno _) (fun σ105 h105 => ?_)
    subst h105
    refine mv_gen (fun S108 eS108 => ?_)
    have hR : Rw 145 (mv_r S108) := by rw [eS108]; exact hR
    have hF : RF 145 σ S108 := by rw [eS108]; exact hF.mark _ _
    have hX : XM 145 th e0 bs BL f0 g0 ns S108 (((306, 0) : Mk) :: ms) (sm wt ms) (sm wr ms) (s0) := by rw [eS108]; exact hX.mark hP (by omega) ⟨y102.1, by omega⟩ (by decide) (fun q => absurd q (by decide))
    have t7 := Eq.trans (congrArg Int32.toInt (show mv_i S108 3 7 = mv_i _ 3 7 by rw [eS108]; rfl)) t7
    have t8 := Eq.trans (congrArg Int32.toInt (show mv_i S108 3 8 = mv_i _ 3 8 by rw [eS108]; rfl)) t8
    have t9 := Eq.trans (congrArg Int32.toInt (show mv_i S108 3 9 = mv_i _ 3 9 by rw [eS108]; rfl)) t9
    have kp := Eq.trans (show mv_a S108 4 = mv_a _ 4 by rw [eS108]; rfl) kp
    have y1 : sm wt (((306, 0) : Mk) :: ms) = wt (306, 0) + sm wt ms := rfl
    have y2 : sm wr (((306, 0) : Mk) :: ms) = wr (306, 0) + sm wr ms := rfl
    have y3 : sm wd (((306, 0) : Mk) :: ms) = wd (306, 0) + sm wd ms := rfl
    have y4 : sm wc (((306, 0) : Mk) :: ms) = wc (306, 0) + sm wc ms := rfl
    have x1 := (show wt (306, 0) = 0 by decide)
    have x2 := (show wr (306, 0) = 0 by decide)
    have x3 := (show wd (306, 0) = 1 by decide)
    have x4 := (show wc (306, 0) = 1 by decide)
    have hend : 0 ≤ (mv_i S108 3 9).toInt ∨ ∃ ms2 s2 a2, a < a2 ∧ XM 145 th e0 bs BL f0 g0 ns S108 (ms2) (sm wt ms2 + (0 : Int32).toNatClampNeg) (sm wr ms2 + (0 : Int32).toNatClampNeg) (s2) ∧ TI S108 sz bd ms2 s2 a2 := by
      by_cases hw : (mv_i S108 3 9).toInt < 0
      · refine Or.inr ⟨((306, 0) : Mk) :: ms, s0, a + 1, by omega, ?_, by omega, hw, by omega, ?_, by omega, by omega, (hWm.up (by omega)).cons (fun q => ⟨by show 0 ≤ (0 : Int32).toInt; decide, by show (0 : Int) ≤ ((a + 1 : Nat) : Int); omega⟩)⟩
        · rw [y1, y2, x1, x2, Nat.zero_add, Nat.zero_add]
          exact hX
        · have := (r102.2.1 (by omega)).2.2.1
          have : ¬ (mv_i σ 3 8).toInt = 60 := fun q => this (Int32.toInt_inj.mp q)
          omega
      · exact Or.inl (by omega)
    clear eS108
    refine mv_iconst (pc := 108) (v := 0) B d_Exprs_operand_108 (by decide) ?_
    exact mv_iret (pc := 109) B hr rfl d_Exprs_operand_109 (Nat.le_refl _) (Nat.le_refl _) ⟨_, rfl, hF, hX.1.2.2.2.1, Or.inl rfl, hend⟩
  show mv_V _ _ _ _ _ _ _ _ _ _ _ _ _ _ _ _ 153 _ _
  refine mv_aload_n (pc := 153) B d_Exprs_operand_153 rfl 1 rfl ?_
  refine mv_iload_n (pc := 154) B d_Exprs_operand_154 rfl 0 rfl ?_
  refine mv_callVv (pc := 155) (n := 1) (ci := 6) (C := R_Exprs) B (mK_ok sk sv) hNs rfl rfl (c_Exprs_call_c l hi _ _ hB0 ht2 hX hI hlen hbs hk3) rfl (ma_goodc kc_Exprs_call) (B.2.2.2.1 _ k_1455) (B.2.2.2.1 _ k_1457) (B.2.2.2.1 _ ks_53) (B.2.2.2.1 _ k_7) ⟨by decide +kernel, by decide +kernel, by decide +kernel⟩ rfl d_Exprs_operand_155 rfl (Nat.le_of_ble_eq_true rfl) ⟨by decide, by decide⟩ ⟨by decide, by decide⟩ ⟨by decide, by decide⟩ (mv_noH hno _) (fun σ155 h155 => ?_)
  refine mv_iconst (pc := 158) (v := 0) B d_Exprs_operand_158 (by decide) ?_
  exact mv_iret (pc := 159) B hr rfl d_Exprs_operand_159 (Nat.le_refl _) (Nat.le_refl _) ⟨_, rfl, h155.1, h155.2.1, Or.inl rfl, h155.2.2⟩
