/-! Exprs: after -/
def y_Exprs_after : MethodName := ⟨"MachineLoom$Exprs", "after", "()I"⟩
abbrev b_Exprs_after : ByteArray := prog_3_method_11_code
theorem kc_Exprs_after : Cond.code y_Exprs_after b_Exprs_after 3 (Option.some Jvm.ClassFile.FieldType.int) ∈ ma := ma_of (tb_7 _ (List.mem_of_getElem? (i := 23) rfl)) rfl
theorem k_1478 : (Jvm.Cond.methodLink "MachineLoom$Exprs" (143 : Nat) ({ cls := "MachineLoom$Exprs", name := "endSigns", desc := "()V" } : Jvm.MethodName)) ∈ ma := ma_of (tb_7 _ (List.mem_of_getElem? (i := 38) rfl)) rfl
theorem k_1480 : (Jvm.Cond.instanceMethod ({ cls := "MachineLoom$Exprs", name := "endSigns", desc := "()V" } : Jvm.MethodName)) ∈ ma := ma_of (tb_7 _ (List.mem_of_getElem? (i := 40) rfl)) rfl
theorem ks_55 : Cond.selects "MachineLoom$Exprs" ⟨"MachineLoom$Exprs", "endSigns", "()V"⟩ ⟨"MachineLoom$Exprs", "endSigns", "()V"⟩ ∈ ma := ma_sel 55 rfl rfl
theorem k_1485 : (Jvm.Cond.methodLink "MachineLoom$Exprs" (149 : Nat) ({ cls := "MachineLoom$Exprs", name := "endBinaries", desc := "(I)V" } : Jvm.MethodName)) ∈ ma := ma_of (tb_7 _ (List.mem_of_getElem? (i := 45) rfl)) rfl
theorem k_1487 : (Jvm.Cond.instanceMethod ({ cls := "MachineLoom$Exprs", name := "endBinaries", desc := "(I)V" } : Jvm.MethodName)) ∈ ma := ma_of (tb_7 _ (List.mem_of_getElem? (i := 47) rfl)) rfl
theorem ks_56 : Cond.selects "MachineLoom$Exprs" ⟨"MachineLoom$Exprs", "endBinaries", "(I)V"⟩ ⟨"MachineLoom$Exprs", "endBinaries", "(I)V"⟩ ∈ ma := ma_sel 56 rfl rfl
theorem k_1497 : (Jvm.Cond.methodLink "MachineLoom$Exprs" (155 : Nat) ({ cls := "MachineLoom$Exprs", name := "endChoices", desc := "()V" } : Jvm.MethodName)) ∈ ma := ma_of (tb_7 _ (List.mem_of_getElem? (i := 57) rfl)) rfl
theorem k_1499 : (Jvm.Cond.instanceMethod ({ cls := "MachineLoom$Exprs", name := "endChoices", desc := "()V" } : Jvm.MethodName)) ∈ ma := ma_of (tb_7 _ (List.mem_of_getElem? (i := 59) rfl)) rfl
theorem ks_59 : Cond.selects "MachineLoom$Exprs" ⟨"MachineLoom$Exprs", "endChoices", "()V"⟩ ⟨"MachineLoom$Exprs", "endChoices", "()V"⟩ ∈ ma := ma_sel 59 rfl rfl
theorem k_1502 : (Jvm.Cond.methodLink "MachineLoom$Exprs" (158 : Nat) ({ cls := "MachineLoom$Exprs", name := "goOn", desc := "(I)I" } : Jvm.MethodName)) ∈ ma := ma_of (tb_7 _ (List.mem_of_getElem? (i := 62) rfl)) rfl
theorem k_1504 : (Jvm.Cond.instanceMethod ({ cls := "MachineLoom$Exprs", name := "goOn", desc := "(I)I" } : Jvm.MethodName)) ∈ ma := ma_of (tb_7 _ (List.mem_of_getElem? (i := 64) rfl)) rfl
theorem ks_60 : Cond.selects "MachineLoom$Exprs" ⟨"MachineLoom$Exprs", "goOn", "(I)I"⟩ ⟨"MachineLoom$Exprs", "goOn", "(I)I"⟩ ∈ ma := ma_sel 60 rfl rfl
theorem k_1493 : (Jvm.Cond.methodLink "MachineLoom$Exprs" (152 : Nat) ({ cls := "MachineLoom$Exprs", name := "choose", desc := "()V" } : Jvm.MethodName)) ∈ ma := ma_of (tb_7 _ (List.mem_of_getElem? (i := 53) rfl)) rfl
theorem k_1495 : (Jvm.Cond.instanceMethod ({ cls := "MachineLoom$Exprs", name := "choose", desc := "()V" } : Jvm.MethodName)) ∈ ma := ma_of (tb_7 _ (List.mem_of_getElem? (i := 55) rfl)) rfl
theorem ks_58 : Cond.selects "MachineLoom$Exprs" ⟨"MachineLoom$Exprs", "choose", "()V"⟩ ⟨"MachineLoom$Exprs", "choose", "()V"⟩ ∈ ma := ma_sel 58 rfl rfl
theorem k_1464 : (Jvm.Cond.methodLink "MachineLoom$Exprs" (140 : Nat) ({ cls := "MachineLoom$Exprs", name := "part", desc := "()V" } : Jvm.MethodName)) ∈ ma := ma_of (tb_7 _ (List.mem_of_getElem? (i := 24) rfl)) rfl
theorem k_1466 : (Jvm.Cond.instanceMethod ({ cls := "MachineLoom$Exprs", name := "part", desc := "()V" } : Jvm.MethodName)) ∈ ma := ma_of (tb_7 _ (List.mem_of_getElem? (i := 26) rfl)) rfl
theorem ks_54 : Cond.selects "MachineLoom$Exprs" ⟨"MachineLoom$Exprs", "part", "()V"⟩ ⟨"MachineLoom$Exprs", "part", "()V"⟩ ∈ ma := ma_sel 54 rfl rfl
theorem d_Exprs_after_0 : decode b_Exprs_after 0 = .ok (.aload_n 0, 1) := by decide +kernel
theorem d_Exprs_after_1 : decode b_Exprs_after 1 = .ok (.getfield 27, 3) := by decide +kernel
theorem d_Exprs_after_4 : decode b_Exprs_after 4 = .ok (.invokevirtual 57, 3) := by decide +kernel
theorem d_Exprs_after_7 : decode b_Exprs_after 7 = .ok (.istore_n 1, 1) := by decide +kernel
theorem d_Exprs_after_8 : decode b_Exprs_after 8 = .ok (.iload_n 1, 1) := by decide +kernel
theorem d_Exprs_after_9 : decode b_Exprs_after 9 = .ok (.bipush 91, 2) := by decide +kernel
theorem d_Exprs_after_11 : decode b_Exprs_after 11 = .ok (.if_icmp .ne (9), 3) := by decide +kernel
theorem d_Exprs_after_14 : decode b_Exprs_after 14 = .ok (.aload_n 0, 1) := by decide +kernel
theorem d_Exprs_after_15 : decode b_Exprs_after 15 = .ok (.invokevirtual 140, 3) := by decide +kernel
theorem d_Exprs_after_18 : decode b_Exprs_after 18 = .ok (.iconst 1, 1) := by decide +kernel
theorem d_Exprs_after_19 : decode b_Exprs_after 19 = .ok (.ireturn, 1) := by decide +kernel
theorem d_Exprs_after_20 : decode b_Exprs_after 20 = .ok (.aload_n 0, 1) := by decide +kernel
theorem d_Exprs_after_21 : decode b_Exprs_after 21 = .ok (.invokevirtual 143, 3) := by decide +kernel
theorem d_Exprs_after_24 : decode b_Exprs_after 24 = .ok (.iload_n 1, 1) := by decide +kernel
theorem d_Exprs_after_25 : decode b_Exprs_after 25 = .ok (.invokestatic 146, 3) := by decide +kernel
theorem d_Exprs_after_28 : decode b_Exprs_after 28 = .ok (.istore_n 2, 1) := by decide +kernel
theorem d_Exprs_after_29 : decode b_Exprs_after 29 = .ok (.iload_n 2, 1) := by decide +kernel
theorem d_Exprs_after_30 : decode b_Exprs_after 30 = .ok (.ifCond .le (23), 3) := by decide +kernel
theorem d_Exprs_after_33 : decode b_Exprs_after 33 = .ok (.aload_n 0, 1) := by decide +kernel
theorem d_Exprs_after_34 : decode b_Exprs_after 34 = .ok (.iload_n 2, 1) := by decide +kernel
theorem d_Exprs_after_35 : decode b_Exprs_after 35 = .ok (.invokevirtual 149, 3) := by decide +kernel
theorem d_Exprs_after_38 : decode b_Exprs_after 38 = .ok (.aload_n 0, 1) := by decide +kernel
theorem d_Exprs_after_39 : decode b_Exprs_after 39 = .ok (.iload_n 1, 1) := by decide +kernel
theorem d_Exprs_after_40 : decode b_Exprs_after 40 = .ok (.aload_n 0, 1) := by decide +kernel
theorem d_Exprs_after_41 : decode b_Exprs_after 41 = .ok (.getfield 27, 3) := by decide +kernel
theorem d_Exprs_after_44 : decode b_Exprs_after 44 = .ok (.iload_n 1, 1) := by decide +kernel
theorem d_Exprs_after_45 : decode b_Exprs_after 45 = .ok (.invokevirtual 82, 3) := by decide +kernel
theorem d_Exprs_after_48 : decode b_Exprs_after 48 = .ok (.invokevirtual 65, 3) := by decide +kernel
theorem d_Exprs_after_51 : decode b_Exprs_after 51 = .ok (.iconst 0, 1) := by decide +kernel
theorem d_Exprs_after_52 : decode b_Exprs_after 52 = .ok (.ireturn, 1) := by decide +kernel
theorem d_Exprs_after_53 : decode b_Exprs_after 53 = .ok (.aload_n 0, 1) := by decide +kernel
theorem d_Exprs_after_54 : decode b_Exprs_after 54 = .ok (.iconst 1, 1) := by decide +kernel
theorem d_Exprs_after_55 : decode b_Exprs_after 55 = .ok (.invokevirtual 149, 3) := by decide +kernel
theorem d_Exprs_after_58 : decode b_Exprs_after 58 = .ok (.iload_n 1, 1) := by decide +kernel
theorem d_Exprs_after_59 : decode b_Exprs_after 59 = .ok (.bipush 63, 2) := by decide +kernel
theorem d_Exprs_after_61 : decode b_Exprs_after 61 = .ok (.if_icmp .ne (9), 3) := by decide +kernel
theorem d_Exprs_after_64 : decode b_Exprs_after 64 = .ok (.aload_n 0, 1) := by decide +kernel
theorem d_Exprs_after_65 : decode b_Exprs_after 65 = .ok (.invokevirtual 152, 3) := by decide +kernel
theorem d_Exprs_after_68 : decode b_Exprs_after 68 = .ok (.iconst 0, 1) := by decide +kernel
theorem d_Exprs_after_69 : decode b_Exprs_after 69 = .ok (.ireturn, 1) := by decide +kernel
theorem d_Exprs_after_70 : decode b_Exprs_after 70 = .ok (.aload_n 0, 1) := by decide +kernel
theorem d_Exprs_after_71 : decode b_Exprs_after 71 = .ok (.invokevirtual 155, 3) := by decide +kernel
theorem d_Exprs_after_74 : decode b_Exprs_after 74 = .ok (.aload_n 0, 1) := by decide +kernel
theorem d_Exprs_after_75 : decode b_Exprs_after 75 = .ok (.getfield 39, 3) := by decide +kernel
theorem d_Exprs_after_78 : decode b_Exprs_after 78 = .ok (.ifCond .ne (5), 3) := by decide +kernel
theorem d_Exprs_after_81 : decode b_Exprs_after 81 = .ok (.iconst 2, 1) := by decide +kernel
theorem d_Exprs_after_82 : decode b_Exprs_after 82 = .ok (.ireturn, 1) := by decide +kernel
theorem d_Exprs_after_83 : decode b_Exprs_after 83 = .ok (.aload_n 0, 1) := by decide +kernel
theorem d_Exprs_after_84 : decode b_Exprs_after 84 = .ok (.iload_n 1, 1) := by decide +kernel
theorem d_Exprs_after_85 : decode b_Exprs_after 85 = .ok (.invokevirtual 158, 3) := by decide +kernel
theorem d_Exprs_after_88 : decode b_Exprs_after 88 = .ok (.ireturn, 1) := by decide +kernel
set_option maxHeartbeats 4000000 in
set_option maxRecDepth 100000 in
theorem c_Exprs_after_a (l : Launch) {dA : FieldType → ClassId} {D : va_G} {al : Nat → Nat} {ext : mv_Sh} {sk sv : Nat → Nat} (hi : mv_inj (mg dA D al ext)) (σ : mv_H) {t len n z sz th sl e0 bs ns : Nat} {BL : (Nat → Nat) → Prop} {f0 : Nat → Int32} {g0 : Nat → Int64} {ms : List Mk} {s0 bd a : Nat} (hB0 : SB 32 σ t len n z sz th sl) (ht2 : t = 1 ∨ t = 144) (hX : XM 32 th e0 bs BL f0 g0 ns σ (ms) (sm wt ms + 1) (sm wr ms + 1) (s0)) (hI : TI σ sz bd ms s0 a) (hlen : len ≤ 32768) (hbs : bs ≤ 1) : mv_C l y_Exprs_after (Cond.code y_Exprs_after b_Exprs_after 3 (Option.some Jvm.ClassFile.FieldType.int) :: ma) ({ frames := 5, cells := 0, slots := 0, locals := 112 }) (mg dA D al ext) (mK sk sv) [.ref (al 22)] σ (mv_Ri (fun v σ1 => RF 32 σ σ1 ∧ Mt (mv_a σ1 24) ∧ ((v = 2 ∧ ∃ s2, XM 32 th e0 bs BL f0 g0 ns σ1 ([]) (1) (1) (s2) ∧ TI σ1 sz bd [] s2 a) ∨ ((v = 0 ∨ v = 1) ∧ (0 ≤ (mv_i σ1 3 9).toInt ∨ ∃ ms2 s2 a2, a < a2 ∧ XM 32 th e0 bs BL f0 g0 ns σ1 (ms2) (sm wt ms2 + v.toNatClampNeg) (sm wr ms2 + v.toNatClampNeg) (s2) ∧ TI σ1 sz bd ms2 s2 a2))))) := by
  refine mv_C.ofV (cc := b_Exprs_after) (nL := 3) (ret := (Option.some Jvm.ClassFile.FieldType.int)) (by decide +kernel) rfl hi (Nat.le_of_ble_eq_true rfl) ?_
  intro p e s m below meth c B hNs hr hnm hno
  have hP : PQ 32 := by unfold PQ; omega
  have hR := hB0.1
  have hF : RF 32 σ σ := RF0
  have hT : mv_i σ 3 = mv_i σ 3 := rfl
  have hsz := hB0.2.1.2.2.2.2.2
  have hsz2 := hB0.2.1.2.2.2.1
  have hI5 := hI.2.2.2.2.1
  have ha9 := hI.2.2.2.2.2.1
  have pl := hI.len hX
  have hm8 := hX.1.1
  have t7 := hI.1
  have hw9 := hI.2.1
  have t9 : (mv_i σ 3 9).toInt = (mv_i σ 3 9).toInt := rfl
  have hd8 := hI.2.2.1
  have hd9 := hI.2.2.2.1
  have hWm := hI.2.2.2.2.2.2
  have kp : mv_a σ 4 = mv_a σ 4 := rfl
  have t8 : (mv_i σ 3 8).toInt = (mv_i σ 3 8).toInt := rfl
  refine mv_aload_n (pc := 0) B d_Exprs_after_0 rfl 0 rfl ?_
  refine mv_getR (pc := 1) (ci := 6) (C := R_Exprs) (T := F_Exprs) (N := 11) B 0 rfl rfl (by decide) i_Exprs (B.2.2.2.1 _ k_193) rfl (hR.1 _ 0 _ rfl) d_Exprs_after_1 ?_
  refine mv_callVi (pc := 4) (n := 0) (ci := 2) (C := R_Tokens) B (mK_ok sk sv) hNs rfl rfl (c_Tokens_kind l hi _ hR.1 (i32_in (by omega) (by omega))) rfl (ma_goodc kc_Tokens_kind) (B.2.2.2.1 _ k_1414) (B.2.2.2.1 _ k_1271) (B.2.2.2.1 _ k_1272) (B.2.2.2.1 _ k_3) ⟨by decide +kernel, by decide +kernel, by decide +kernel⟩ rfl d_Exprs_after_4 rfl (Nat.le_of_ble_eq_true rfl) ⟨by decide, by decide⟩ ⟨by decide, by decide⟩ ⟨by decide, by decide⟩ (mv_noH hno _) (fun v4 σ4 h4 => ?_)
  obtain ⟨e4, z4⟩ := h4
  have e4 := e4.symm
  subst e4
  have hk3 : mv_a σ 4 (mv_i σ 3 7).toNatClampNeg = v4 := (z4.trans (if_pos (lt0.mpr hw9))).symm
  clear z4
  refine mv_istore_n (pc := 7) B d_Exprs_after_7 rfl (by decide) rfl ?_
  refine mv_iload_n (pc := 8) B d_Exprs_after_8 rfl 0 rfl ?_
  refine mv_bipush (pc := 9) (v := 91) B d_Exprs_after_9 (by decide) ?_
  refine mv_icmp_ne (pc := 11) (tgt := 20) B d_Exprs_after_11 rfl (fun h11 => ?_) (fun h11 => ?_)
  · skip
    refine mv_aload_n (pc := 20) B d_Exprs_after_20 rfl 1 rfl ?_
    refine mv_callVv (pc := 21) (n := 0) (ci := 6) (C := R_Exprs) B (mK_ok sk sv) hNs rfl rfl (c_Exprs_endSigns_a l hi _ hB0 ht2 hX hI hlen hbs) rfl (ma_goodc kc_Exprs_endSigns) (B.2.2.2.1 _ k_1478) (B.2.2.2.1 _ k_1480) (B.2.2.2.1 _ ks_55) (B.2.2.2.1 _ k_7) ⟨by decide +kernel, by decide +kernel, by decide +kernel⟩ rfl d_Exprs_after_21 rfl (Nat.le_of_ble_eq_true rfl) ⟨by decide, by decide⟩ ⟨by decide, by decide⟩ ⟨by decide, by decide⟩ (mv_noH hno _) (fun σ21 h21 => ?_)
    obtain ⟨f21, ms2, s2, hX, hI, t21, u21⟩ := h21
    have hk3 : mv_a σ21 4 (mv_i σ21 3 7).toNatClampNeg = v4 := by rw [f21.2.1 4 (by decide), t21]; exact hk3
    have hR : Rw 32 (mv_r σ21) := by rw [f21.2.2.2.2]; exact hR
    have hF : RF 32 σ σ21 := hF.tr f21
    refine mv_iload_n (pc := 24) B d_Exprs_after_24 rfl 0 rfl ?_
    refine mv_callSi (pc := 25) (n := 1) B (mK_ok sk sv) hNs (c_Exprs_levelOf l hi _ _) rfl (ma_goodc kc_Exprs_levelOf) (B.2.2.2.1 _ k_1482) (B.2.2.2.1 _ k_1483) (B.2.2.2.1 _ k_7) ⟨by decide +kernel, by decide +kernel, by decide +kernel⟩ rfl d_Exprs_after_25 rfl (Nat.le_of_ble_eq_true rfl) ⟨by decide, by decide⟩ ⟨by decide, by decide⟩ ⟨by decide, by decide⟩ (mv_noH hno _) (fun v25 σ25 h25 => ?_)
    obtain ⟨e25, z25⟩ := h25
    have e25 := e25.symm
    subst e25
    refine mv_istore_n (pc := 28) B d_Exprs_after_28 rfl (by decide) rfl ?_
    refine mv_iload_n (pc := 29) B d_Exprs_after_29 rfl 0 rfl ?_
    refine mv_if_le (pc := 30) (tgt := 53) B d_Exprs_after_30 rfl (fun h30 => ?_) (fun h30 => ?_)
    · skip
      refine mv_aload_n (pc := 53) B d_Exprs_after_53 rfl 2 rfl ?_
      refine mv_iconst (pc := 54) (v := 1) B d_Exprs_after_54 (by decide) ?_
      refine mv_callVv (pc := 55) (n := 1) (ci := 6) (C := R_Exprs) B (mK_ok sk sv) hNs rfl rfl (c_Exprs_endBinaries_a l hi _ _ 1 rfl (by omega) (hB0.rf hF hP ht2) ht2 hX hI hlen hbs) rfl (ma_goodc kc_Exprs_endBinaries) (B.2.2.2.1 _ k_1485) (B.2.2.2.1 _ k_1487) (B.2.2.2.1 _ ks_56) (B.2.2.2.1 _ k_7) ⟨by decide +kernel, by decide +kernel, by decide +kernel⟩ rfl d_Exprs_after_55 rfl (Nat.le_of_ble_eq_true rfl) ⟨by decide, by decide⟩ ⟨by decide, by decide⟩ ⟨by decide, by decide⟩ (mv_noH hno _) (fun σ55 h55 => ?_)
      obtain ⟨f55, ms3, s3, hX, hI, hl55, t55⟩ := h55
      have t55 := congrFun t55 7
      have hk3 : mv_a σ55 4 (mv_i σ55 3 7).toNatClampNeg = v4 := by rw [f55.2.1 4 (by decide), t55]; exact hk3
      have hR : Rw 32 (mv_r σ55) := by rw [f55.2.2.2.2]; exact hR
      have hF : RF 32 σ σ55 := hF.tr f55
      refine mv_iload_n (pc := 58) B d_Exprs_after_58 rfl 1 rfl ?_
      refine mv_bipush (pc := 59) (v := 63) B d_Exprs_after_59 (by decide) ?_
      refine mv_icmp_ne (pc := 61) (tgt := 70) B d_Exprs_after_61 rfl (fun h61 => ?_) (fun h61 => ?_)
      · skip
        refine mv_aload_n (pc := 70) B d_Exprs_after_70 rfl 2 rfl ?_
        refine mv_callVv (pc := 71) (n := 0) (ci := 6) (C := R_Exprs) B (mK_ok sk sv) hNs rfl rfl (c_Exprs_endChoices_a l hi _ (hB0.rf hF hP ht2) ht2 hX hI hlen hbs) rfl (ma_goodc kc_Exprs_endChoices) (B.2.2.2.1 _ k_1497) (B.2.2.2.1 _ k_1499) (B.2.2.2.1 _ ks_59) (B.2.2.2.1 _ k_7) ⟨by decide +kernel, by decide +kernel, by decide +kernel⟩ rfl d_Exprs_after_71 rfl (Nat.le_of_ble_eq_true rfl) ⟨by decide, by decide⟩ ⟨by decide, by decide⟩ ⟨by decide, by decide⟩ (mv_noH hno _) (fun σ71 h71 => ?_)
        obtain ⟨f71, ms4, s4, hX, hI, t71, u71⟩ := h71
        have hk3 : mv_a σ71 4 (mv_i σ71 3 7).toNatClampNeg = v4 := by rw [f71.2.1 4 (by decide), t71]; exact hk3
        have hR : Rw 32 (mv_r σ71) := by rw [f71.2.2.2.2]; exact hR
        have hF : RF 32 σ σ71 := hF.tr f71
        refine mv_aload_n (pc := 74) B d_Exprs_after_74 rfl 2 rfl ?_
        refine mv_getI (pc := 75) (ci := 6) (C := R_Exprs) (T := F_Exprs) (N := 11) B 8 rfl rfl (by decide) i_Exprs (B.2.2.2.1 _ k_202) rfl d_Exprs_after_75 ?_
        refine mv_if_ne (pc := 78) (tgt := 83) B d_Exprs_after_78 rfl (fun h78 => ?_) (fun h78 => ?_)
        · skip
          obtain ⟨k8, w8, ms5, ems⟩ := hX.ne (Decidable.byContradiction fun q => h78 (Int32.toInt_inj.mp (by have := hX.1.1; show (mv_i σ71 22 8).toInt = 0; omega)))
          subst ems
          refine mv_aload_n (pc := 83) B d_Exprs_after_83 rfl 2 rfl ?_
          refine mv_iload_n (pc := 84) B d_Exprs_after_84 rfl 1 rfl ?_
          refine mv_callVi (pc := 85) (n := 1) (ci := 6) (C := R_Exprs) B (mK_ok sk sv) hNs rfl rfl (c_Exprs_goOn_a l hi _ _ _ _ (hB0.rf hF hP ht2) ht2 hX hI hlen hbs hk3) rfl (ma_goodc kc_Exprs_goOn) (B.2.2.2.1 _ k_1502) (B.2.2.2.1 _ k_1504) (B.2.2.2.1 _ ks_60) (B.2.2.2.1 _ k_7) ⟨by decide +kernel, by decide +kernel, by decide +kernel⟩ rfl d_Exprs_after_85 rfl (Nat.le_of_ble_eq_true rfl) ⟨by decide, by decide⟩ ⟨by decide, by decide⟩ ⟨by decide, by decide⟩ (mv_noH hno _) (fun v85 σ85 h85 => ?_)
          exact mv_iret (pc := 88) B hr rfl d_Exprs_after_88 (Nat.le_refl _) (Nat.le_refl _) ⟨_, rfl, hF.tr h85.1, h85.2.1, Or.inr ⟨h85.2.2.1, h85.2.2.2⟩⟩
        · skip
          have enil := hX.nil (by rw [h78]; decide)
          subst enil
          refine mv_iconst (pc := 81) (v := 2) B d_Exprs_after_81 (by decide) ?_
          exact mv_iret (pc := 82) B hr rfl d_Exprs_after_82 (Nat.le_refl _) (Nat.le_refl _) ⟨_, rfl, hF, hX.1.2.2.2.1, Or.inl ⟨rfl, s4, hX, hI⟩⟩
      · skip
        rw [h61] at hk3
        refine mv_aload_n (pc := 64) B d_Exprs_after_64 rfl 2 rfl ?_
        refine mv_callVv (pc := 65) (n := 0) (ci := 6) (C := R_Exprs) B (mK_ok sk sv) hNs rfl rfl (c_Exprs_choose_a l hi _ (hB0.rf hF hP ht2) ht2 hX hI hlen hbs hk3) rfl (ma_goodc kc_Exprs_choose) (B.2.2.2.1 _ k_1493) (B.2.2.2.1 _ k_1495) (B.2.2.2.1 _ ks_58) (B.2.2.2.1 _ k_7) ⟨by decide +kernel, by decide +kernel, by decide +kernel⟩ rfl d_Exprs_after_65 rfl (Nat.le_of_ble_eq_true rfl) ⟨by decide, by decide⟩ ⟨by decide, by decide⟩ ⟨by decide, by decide⟩ (mv_noH hno _) (fun σ65 h65 => ?_)
        refine mv_iconst (pc := 68) (v := 0) B d_Exprs_after_68 (by decide) ?_
        exact mv_iret (pc := 69) B hr rfl d_Exprs_after_69 (Nat.le_refl _) (Nat.le_refl _) ⟨_, rfl, hF.tr h65.1, h65.2.1, Or.inr ⟨Or.inl rfl, h65.2.2⟩⟩
    · skip
      rw [Int32.le_iff_toInt_le] at h30
      simp only [Int32.reduceToInt] at h30
      have hlv : 0 < lvl v4 := by omega
      refine mv_aload_n (pc := 33) B d_Exprs_after_33 rfl 2 rfl ?_
      refine mv_iload_n (pc := 34) B d_Exprs_after_34 rfl 0 rfl ?_
      refine mv_callVv (pc := 35) (n := 1) (ci := 6) (C := R_Exprs) B (mK_ok sk sv) hNs rfl rfl (c_Exprs_endBinaries_a l hi _ _ (lvl v4) z25 (by omega) (hB0.rf hF hP ht2) ht2 hX hI hlen hbs) rfl (ma_goodc kc_Exprs_endBinaries) (B.2.2.2.1 _ k_1485) (B.2.2.2.1 _ k_1487) (B.2.2.2.1 _ ks_56) (B.2.2.2.1 _ k_7) ⟨by decide +kernel, by decide +kernel, by decide +kernel⟩ rfl d_Exprs_after_35 rfl (Nat.le_of_ble_eq_true rfl) ⟨by decide, by decide⟩ ⟨by decide, by decide⟩ ⟨by decide, by decide⟩ (mv_noH hno _) (fun σ35 h35 => ?_)
      obtain ⟨f35, ms3, s3, hX, hI, hl35, t35⟩ := h35
      have t35 := congrFun t35 7
      have hk3 : mv_a σ35 4 (mv_i σ35 3 7).toNatClampNeg = v4 := by rw [f35.2.1 4 (by decide), t35]; exact hk3
      have hR : Rw 32 (mv_r σ35) := by rw [f35.2.2.2.2]; exact hR
      have hF : RF 32 σ σ35 := hF.tr f35
      have hI5 := hI.2.2.2.2.1
      have ha9 := hI.2.2.2.2.2.1
      have pl := hI.len hX
      have hm8 := hX.1.1
      have t7 := hI.1
      have hw9 := hI.2.1
      have t9 : (mv_i σ35 3 9).toInt = (mv_i σ35 3 9).toInt := rfl
      have hd8 := hI.2.2.1
      have hd9 := hI.2.2.2.1
      have hWm := hI.2.2.2.2.2.2
      have kp : mv_a σ35 4 = mv_a σ 4 := hF.2.1 4 (by decide)
      have t8 : (mv_i σ35 3 8).toInt = (mv_i σ35 3 8).toInt := rfl
      have hkn : ¬ v4 = 0 ∧ ¬ v4 = 1 ∧ ¬ v4 = 2 := ⟨fun q => by rw [q] at hlv; exact absurd hlv (by decide), fun q => by rw [q] at hlv; exact absurd hlv (by decide), fun q => by rw [q] at hlv; exact absurd hlv (by decide)⟩
      obtain ⟨j1, j2, j3, j4, j5, j6, j7, j8⟩ := lvl_wt (w := 0) hlv
      refine mv_aload_n (pc := 38) B d_Exprs_after_38 rfl 2 rfl ?_
      refine mv_iload_n (pc := 39) B d_Exprs_after_39 rfl 1 rfl ?_
      refine mv_aload_n (pc := 40) B d_Exprs_after_40 rfl 2 rfl ?_
      refine mv_getR (pc := 41) (ci := 6) (C := R_Exprs) (T := F_Exprs) (N := 11) B 0 rfl rfl (by decide) i_Exprs (B.2.2.2.1 _ k_193) rfl (hR.1 _ 0 _ rfl) d_Exprs_after_41 ?_
      refine mv_iload_n (pc := 44) B d_Exprs_after_44 rfl 1 rfl ?_
      refine mv_callVi (pc := 45) (n := 1) (ci := 2) (C := R_Tokens) B (mK_ok sk sv) hNs rfl rfl (c_Tokens_takeN l hi _ _ hR.1 (hB0.rf hF hP ht2).2.1 (by omega) (by omega) hkn) rfl (ma_goodc kc_Tokens_take) (B.2.2.2.1 _ k_1424) (B.2.2.2.1 _ k_1267) (B.2.2.2.1 _ k_1268) (B.2.2.2.1 _ k_3) ⟨by decide +kernel, by decide +kernel, by decide +kernel⟩ rfl d_Exprs_after_45 rfl (Nat.le_of_ble_eq_true rfl) ⟨by decide, by decide⟩ ⟨by decide, by decide⟩ ⟨by decide, by decide⟩ (mv_noH hno _) (fun v45 σ45 h45 => ?_)
      obtain ⟨a45, w45, e45, r45⟩ := h45
      have q45 := r45.1
      have z45 := fun q => (r45.2.1 q).1
      have y45 := And.intro r45.2.2.2.1 r45.2.2.2.2.1
      subst e45
      have hw6 := r45.2.2.1 hw9 hk3 trivial
      refine mv_gen (fun S48 eS48 => ?_)
      have hR : Rw 32 (mv_r S48) := by rw [eS48]; exact hR
      have hF : RF 32 σ S48 := by rw [eS48]; exact hF.tk3 _ _ _
      have hX : XM 32 th e0 bs BL f0 g0 ns S48 (ms3) (sm wt ms3 + 1) (sm wr ms3 + 1) (s3) := by rw [eS48]; exact hX.tk3 hP _ _ _
      have t7 : (mv_i S48 3 7).toInt = a45.toInt := by rw [eS48]; rfl
      have t8 : (mv_i S48 3 8).toInt = (mv_i σ35 3 8).toInt := by rw [eS48]; first | exact t8 | exact (sub_one (by omega)).trans (by omega) | exact (i32_inc (by omega)).trans (by omega)
      have t9 : (mv_i S48 3 9).toInt = w45.toInt := by rw [eS48]; rfl
      have kS48 : mv_a S48 4 = mv_a σ 4 := by rw [eS48]; first | rfl | exact kp
      have kp := kS48
      clear eS48
      refine mv_callVv (pc := 48) (n := 2) (ci := 6) (C := R_Exprs) B (mK_ok sk sv) hNs rfl rfl (c_Exprs_mark l hi _ _ _ hR.1 (by have := hX.1.1; omega) (by have := hX.1.1; omega)) rfl (ma_goodc kc_Exprs_mark) (B.2.2.2.1 _ k_1416) (B.2.2.2.1 _ k_1418) (B.2.2.2.1 _ ks_48) (B.2.2.2.1 _ k_7) ⟨by decide +kernel, by decide +kernel, by decide +kernel⟩ rfl d_Exprs_after_48 rfl (Nat.le_of_ble_eq_true rfl) ⟨by decide, by decide⟩ ⟨by decide, by decide⟩ ⟨by decide, by decide⟩ (mv_noH hno _) (fun σ48 h48 => ?_)
      subst h48
      refine mv_gen (fun S51 eS51 => ?_)
      have hR : Rw 32 (mv_r S51) := by rw [eS51]; exact hR
      have hF : RF 32 σ S51 := by rw [eS51]; exact hF.mark _ _
      have hX : XM 32 th e0 bs BL f0 g0 ns S51 (((v4, 0) : Mk) :: ms3) (sm wt ms3 + 1) (sm wr ms3 + 1) (s3) := by rw [eS51]; exact hX.mark hP (by omega) ⟨y45.1, by omega⟩ ⟨j5, j6, j7⟩ (fun _ => hl35)
      have t7 := Eq.trans (congrArg Int32.toInt (show mv_i S51 3 7 = mv_i _ 3 7 by rw [eS51]; rfl)) t7
      have t8 := Eq.trans (congrArg Int32.toInt (show mv_i S51 3 8 = mv_i _ 3 8 by rw [eS51]; rfl)) t8
      have t9 := Eq.trans (congrArg Int32.toInt (show mv_i S51 3 9 = mv_i _ 3 9 by rw [eS51]; rfl)) t9
      have kp := Eq.trans (show mv_a S51 4 = mv_a _ 4 by rw [eS51]; rfl) kp
      have y1 : sm wt (((v4, 0) : Mk) :: ms3) = wt (v4, 0) + sm wt ms3 := rfl
      have y2 : sm wr (((v4, 0) : Mk) :: ms3) = wr (v4, 0) + sm wr ms3 := rfl
      have y3 : sm wd (((v4, 0) : Mk) :: ms3) = wd (v4, 0) + sm wd ms3 := rfl
      have y4 : sm wc (((v4, 0) : Mk) :: ms3) = wc (v4, 0) + sm wc ms3 := rfl
      clear eS51
      refine mv_iconst (pc := 51) (v := 0) B d_Exprs_after_51 (by decide) ?_
      exact mv_iret (pc := 52) B hr rfl d_Exprs_after_52 (Nat.le_refl _) (Nat.le_refl _) ⟨_, rfl, hF, hX.1.2.2.2.1, Or.inr ⟨Or.inl rfl, Or.inr ⟨((v4, 0) : Mk) :: ms3, s3, a + 1, by omega, by rw [y1, y2, j1, j2, Nat.add_comm 1, Nat.add_comm 1]; exact hX, by omega, by omega, by omega, by omega, by omega, by omega, (hWm.up (by omega)).cons (fun q => absurd q j8)⟩⟩⟩
  · skip
    rw [h11] at hk3
    refine mv_aload_n (pc := 14) B d_Exprs_after_14 rfl 1 rfl ?_
    refine mv_callVv (pc := 15) (n := 0) (ci := 6) (C := R_Exprs) B (mK_ok sk sv) hNs rfl rfl (c_Exprs_part_a l hi _ hB0 ht2 hX hI hlen hbs hk3) rfl (ma_goodc kc_Exprs_part) (B.2.2.2.1 _ k_1464) (B.2.2.2.1 _ k_1466) (B.2.2.2.1 _ ks_54) (B.2.2.2.1 _ k_7) ⟨by decide +kernel, by decide +kernel, by decide +kernel⟩ rfl d_Exprs_after_15 rfl (Nat.le_of_ble_eq_true rfl) ⟨by decide, by decide⟩ ⟨by decide, by decide⟩ ⟨by decide, by decide⟩ (mv_noH hno _) (fun σ15 h15 => ?_)
    refine mv_iconst (pc := 18) (v := 1) B d_Exprs_after_18 (by decide) ?_
    exact mv_iret (pc := 19) B hr rfl d_Exprs_after_19 (Nat.le_refl _) (Nat.le_refl _) ⟨_, rfl, h15.1, h15.2.1, Or.inr ⟨Or.inr rfl, h15.2.2⟩⟩
set_option maxHeartbeats 4000000 in
set_option maxRecDepth 100000 in
theorem c_Exprs_after_b (l : Launch) {dA : FieldType → ClassId} {D : va_G} {al : Nat → Nat} {ext : mv_Sh} {sk sv : Nat → Nat} (hi : mv_inj (mg dA D al ext)) (σ : mv_H) {t len n z sz th sl e0 bs ns : Nat} {BL : (Nat → Nat) → Prop} {f0 : Nat → Int32} {g0 : Nat → Int64} {ms : List Mk} {s0 bd a : Nat} (hB0 : SB 48 σ t len n z sz th sl) (ht2 : t = 1 ∨ t = 144) (hX : XM 48 th e0 bs BL f0 g0 ns σ (ms) (sm wt ms + 1) (sm wr ms + 1) (s0)) (hI : TI σ sz bd ms s0 a) (hlen : len ≤ 32768) (hbs : bs ≤ 1) : mv_C l y_Exprs_after (Cond.code y_Exprs_after b_Exprs_after 3 (Option.some Jvm.ClassFile.FieldType.int) :: ma) ({ frames := 5, cells := 0, slots := 0, locals := 112 }) (mg dA D al ext) (mK sk sv) [.ref (al 22)] σ (mv_Ri (fun v σ1 => RF 48 σ σ1 ∧ Mt (mv_a σ1 24) ∧ ((v = 2 ∧ ∃ s2, XM 48 th e0 bs BL f0 g0 ns σ1 ([]) (1) (1) (s2) ∧ TI σ1 sz bd [] s2 a) ∨ ((v = 0 ∨ v = 1) ∧ (0 ≤ (mv_i σ1 3 9).toInt ∨ ∃ ms2 s2 a2, a < a2 ∧ XM 48 th e0 bs BL f0 g0 ns σ1 (ms2) (sm wt ms2 + v.toNatClampNeg) (sm wr ms2 + v.toNatClampNeg) (s2) ∧ TI σ1 sz bd ms2 s2 a2))))) := by
  refine mv_C.ofV (cc := b_Exprs_after) (nL := 3) (ret := (Option.some Jvm.ClassFile.FieldType.int)) (by decide +kernel) rfl hi (Nat.le_of_ble_eq_true rfl) ?_
  intro p e s m below meth c B hNs hr hnm hno
  have hP : PQ 48 := by unfold PQ; omega
  have hR := hB0.1
  have hF : RF 48 σ σ := RF0
  have hT : mv_i σ 3 = mv_i σ 3 := rfl
  have hsz := hB0.2.1.2.2.2.2.2
  have hsz2 := hB0.2.1.2.2.2.1
  have hI5 := hI.2.2.2.2.1
  have ha9 := hI.2.2.2.2.2.1
  have pl := hI.len hX
  have hm8 := hX.1.1
  have t7 := hI.1
  have hw9 := hI.2.1
  have t9 : (mv_i σ 3 9).toInt = (mv_i σ 3 9).toInt := rfl
  have hd8 := hI.2.2.1
  have hd9 := hI.2.2.2.1
  have hWm := hI.2.2.2.2.2.2
  have kp : mv_a σ 4 = mv_a σ 4 := rfl
  have t8 : (mv_i σ 3 8).toInt = (mv_i σ 3 8).toInt := rfl
  refine mv_aload_n (pc := 0) B d_Exprs_after_0 rfl 0 rfl ?_
  refine mv_getR (pc := 1) (ci := 6) (C := R_Exprs) (T := F_Exprs) (N := 11) B 0 rfl rfl (by decide) i_Exprs (B.2.2.2.1 _ k_193) rfl (hR.1 _ 0 _ rfl) d_Exprs_after_1 ?_
  refine mv_callVi (pc := 4) (n := 0) (ci := 2) (C := R_Tokens) B (mK_ok sk sv) hNs rfl rfl (c_Tokens_kind l hi _ hR.1 (i32_in (by omega) (by omega))) rfl (ma_goodc kc_Tokens_kind) (B.2.2.2.1 _ k_1414) (B.2.2.2.1 _ k_1271) (B.2.2.2.1 _ k_1272) (B.2.2.2.1 _ k_3) ⟨by decide +kernel, by decide +kernel, by decide +kernel⟩ rfl d_Exprs_after_4 rfl (Nat.le_of_ble_eq_true rfl) ⟨by decide, by decide⟩ ⟨by decide, by decide⟩ ⟨by decide, by decide⟩ (mv_noH hno _) (fun v4 σ4 h4 => ?_)
  obtain ⟨e4, z4⟩ := h4
  have e4 := e4.symm
  subst e4
  have hk3 : mv_a σ 4 (mv_i σ 3 7).toNatClampNeg = v4 := (z4.trans (if_pos (lt0.mpr hw9))).symm
  clear z4
  refine mv_istore_n (pc := 7) B d_Exprs_after_7 rfl (by decide) rfl ?_
  refine mv_iload_n (pc := 8) B d_Exprs_after_8 rfl 0 rfl ?_
  refine mv_bipush (pc := 9) (v := 91) B d_Exprs_after_9 (by decide) ?_
  refine mv_icmp_ne (pc := 11) (tgt := 20) B d_Exprs_after_11 rfl (fun h11 => ?_) (fun h11 => ?_)
  · skip
    refine mv_aload_n (pc := 20) B d_Exprs_after_20 rfl 1 rfl ?_
    refine mv_callVv (pc := 21) (n := 0) (ci := 6) (C := R_Exprs) B (mK_ok sk sv) hNs rfl rfl (c_Exprs_endSigns_b l hi _ hB0 ht2 hX hI hlen hbs) rfl (ma_goodc kc_Exprs_endSigns) (B.2.2.2.1 _ k_1478) (B.2.2.2.1 _ k_1480) (B.2.2.2.1 _ ks_55) (B.2.2.2.1 _ k_7) ⟨by decide +kernel, by decide +kernel, by decide +kernel⟩ rfl d_Exprs_after_21 rfl (Nat.le_of_ble_eq_true rfl) ⟨by decide, by decide⟩ ⟨by decide, by decide⟩ ⟨by decide, by decide⟩ (mv_noH hno _) (fun σ21 h21 => ?_)
    obtain ⟨f21, ms2, s2, hX, hI, t21, u21⟩ := h21
    have hk3 : mv_a σ21 4 (mv_i σ21 3 7).toNatClampNeg = v4 := by rw [f21.2.1 4 (by decide), t21]; exact hk3
    have hR : Rw 48 (mv_r σ21) := by rw [f21.2.2.2.2]; exact hR
    have hF : RF 48 σ σ21 := hF.tr f21
    refine mv_iload_n (pc := 24) B d_Exprs_after_24 rfl 0 rfl ?_
    refine mv_callSi (pc := 25) (n := 1) B (mK_ok sk sv) hNs (c_Exprs_levelOf l hi _ _) rfl (ma_goodc kc_Exprs_levelOf) (B.2.2.2.1 _ k_1482) (B.2.2.2.1 _ k_1483) (B.2.2.2.1 _ k_7) ⟨by decide +kernel, by decide +kernel, by decide +kernel⟩ rfl d_Exprs_after_25 rfl (Nat.le_of_ble_eq_true rfl) ⟨by decide, by decide⟩ ⟨by decide, by decide⟩ ⟨by decide, by decide⟩ (mv_noH hno _) (fun v25 σ25 h25 => ?_)
    obtain ⟨e25, z25⟩ := h25
    have e25 := e25.symm
    subst e25
    refine mv_istore_n (pc := 28) B d_Exprs_after_28 rfl (by decide) rfl ?_
    refine mv_iload_n (pc := 29) B d_Exprs_after_29 rfl 0 rfl ?_
    refine mv_if_le (pc := 30) (tgt := 53) B d_Exprs_after_30 rfl (fun h30 => ?_) (fun h30 => ?_)
    · skip
      refine mv_aload_n (pc := 53) B d_Exprs_after_53 rfl 2 rfl ?_
      refine mv_iconst (pc := 54) (v := 1) B d_Exprs_after_54 (by decide) ?_
      refine mv_callVv (pc := 55) (n := 1) (ci := 6) (C := R_Exprs) B (mK_ok sk sv) hNs rfl rfl (c_Exprs_endBinaries_b l hi _ _ 1 rfl (by omega) (hB0.rf hF hP ht2) ht2 hX hI hlen hbs) rfl (ma_goodc kc_Exprs_endBinaries) (B.2.2.2.1 _ k_1485) (B.2.2.2.1 _ k_1487) (B.2.2.2.1 _ ks_56) (B.2.2.2.1 _ k_7) ⟨by decide +kernel, by decide +kernel, by decide +kernel⟩ rfl d_Exprs_after_55 rfl (Nat.le_of_ble_eq_true rfl) ⟨by decide, by decide⟩ ⟨by decide, by decide⟩ ⟨by decide, by decide⟩ (mv_noH hno _) (fun σ55 h55 => ?_)
      obtain ⟨f55, ms3, s3, hX, hI, hl55, t55⟩ := h55
      have t55 := congrFun t55 7
      have hk3 : mv_a σ55 4 (mv_i σ55 3 7).toNatClampNeg = v4 := by rw [f55.2.1 4 (by decide), t55]; exact hk3
      have hR : Rw 48 (mv_r σ55) := by rw [f55.2.2.2.2]; exact hR
      have hF : RF 48 σ σ55 := hF.tr f55
      refine mv_iload_n (pc := 58) B d_Exprs_after_58 rfl 1 rfl ?_
      refine mv_bipush (pc := 59) (v := 63) B d_Exprs_after_59 (by decide) ?_
      refine mv_icmp_ne (pc := 61) (tgt := 70) B d_Exprs_after_61 rfl (fun h61 => ?_) (fun h61 => ?_)
      · skip
        refine mv_aload_n (pc := 70) B d_Exprs_after_70 rfl 2 rfl ?_
        refine mv_callVv (pc := 71) (n := 0) (ci := 6) (C := R_Exprs) B (mK_ok sk sv) hNs rfl rfl (c_Exprs_endChoices_b l hi _ (hB0.rf hF hP ht2) ht2 hX hI hlen hbs) rfl (ma_goodc kc_Exprs_endChoices) (B.2.2.2.1 _ k_1497) (B.2.2.2.1 _ k_1499) (B.2.2.2.1 _ ks_59) (B.2.2.2.1 _ k_7) ⟨by decide +kernel, by decide +kernel, by decide +kernel⟩ rfl d_Exprs_after_71 rfl (Nat.le_of_ble_eq_true rfl) ⟨by decide, by decide⟩ ⟨by decide, by decide⟩ ⟨by decide, by decide⟩ (mv_noH hno _) (fun σ71 h71 => ?_)
        obtain ⟨f71, ms4, s4, hX, hI, t71, u71⟩ := h71
        have hk3 : mv_a σ71 4 (mv_i σ71 3 7).toNatClampNeg = v4 := by rw [f71.2.1 4 (by decide), t71]; exact hk3
        have hR : Rw 48 (mv_r σ71) := by rw [f71.2.2.2.2]; exact hR
        have hF : RF 48 σ σ71 := hF.tr f71
        refine mv_aload_n (pc := 74) B d_Exprs_after_74 rfl 2 rfl ?_
        refine mv_getI (pc := 75) (ci := 6) (C := R_Exprs) (T := F_Exprs) (N := 11) B 8 rfl rfl (by decide) i_Exprs (B.2.2.2.1 _ k_202) rfl d_Exprs_after_75 ?_
        refine mv_if_ne (pc := 78) (tgt := 83) B d_Exprs_after_78 rfl (fun h78 => ?_) (fun h78 => ?_)
        · skip
          obtain ⟨k8, w8, ms5, ems⟩ := hX.ne (Decidable.byContradiction fun q => h78 (Int32.toInt_inj.mp (by have := hX.1.1; show (mv_i σ71 22 8).toInt = 0; omega)))
          subst ems
          refine mv_aload_n (pc := 83) B d_Exprs_after_83 rfl 2 rfl ?_
          refine mv_iload_n (pc := 84) B d_Exprs_after_84 rfl 1 rfl ?_
          refine mv_callVi (pc := 85) (n := 1) (ci := 6) (C := R_Exprs) B (mK_ok sk sv) hNs rfl rfl (c_Exprs_goOn_b l hi _ _ _ _ (hB0.rf hF hP ht2) ht2 hX hI hlen hbs hk3) rfl (ma_goodc kc_Exprs_goOn) (B.2.2.2.1 _ k_1502) (B.2.2.2.1 _ k_1504) (B.2.2.2.1 _ ks_60) (B.2.2.2.1 _ k_7) ⟨by decide +kernel, by decide +kernel, by decide +kernel⟩ rfl d_Exprs_after_85 rfl (Nat.le_of_ble_eq_true rfl) ⟨by decide, by decide⟩ ⟨by decide, by decide⟩ ⟨by decide, by decide⟩ (mv_noH hno _) (fun v85 σ85 h85 => ?_)
          exact mv_iret (pc := 88) B hr rfl d_Exprs_after_88 (Nat.le_refl _) (Nat.le_refl _) ⟨_, rfl, hF.tr h85.1, h85.2.1, Or.inr ⟨h85.2.2.1, h85.2.2.2⟩⟩
        · skip
          have enil := hX.nil (by rw [h78]; decide)
          subst enil
          refine mv_iconst (pc := 81) (v := 2) B d_Exprs_after_81 (by decide) ?_
          exact mv_iret (pc := 82) B hr rfl d_Exprs_after_82 (Nat.le_refl _) (Nat.le_refl _) ⟨_, rfl, hF, hX.1.2.2.2.1, Or.inl ⟨rfl, s4, hX, hI⟩⟩
      · skip
        rw [h61] at hk3
        refine mv_aload_n (pc := 64) B d_Exprs_after_64 rfl 2 rfl ?_
        refine mv_callVv (pc := 65) (n := 0) (ci := 6) (C := R_Exprs) B (mK_ok sk sv) hNs rfl rfl (c_Exprs_choose_b l hi _ (hB0.rf hF hP ht2) ht2 hX hI hlen hbs hk3) rfl (ma_goodc kc_Exprs_choose) (B.2.2.2.1 _ k_1493) (B.2.2.2.1 _ k_1495) (B.2.2.2.1 _ ks_58) (B.2.2.2.1 _ k_7) ⟨by decide +kernel, by decide +kernel, by decide +kernel⟩ rfl d_Exprs_after_65 rfl (Nat.le_of_ble_eq_true rfl) ⟨by decide, by decide⟩ ⟨by decide, by decide⟩ ⟨by decide, by decide⟩ (mv_noH hno _) (fun σ65 h65 => ?_)
        refine mv_iconst (pc := 68) (v := 0) B d_Exprs_after_68 (by decide) ?_
        exact mv_iret (pc := 69) B hr rfl d_Exprs_after_69 (Nat.le_refl _) (Nat.le_refl _) ⟨_, rfl, hF.tr h65.1, h65.2.1, Or.inr ⟨Or.inl rfl, h65.2.2⟩⟩
    · skip
      rw [Int32.le_iff_toInt_le] at h30
      simp only [Int32.reduceToInt] at h30
      have hlv : 0 < lvl v4 := by omega
      refine mv_aload_n (pc := 33) B d_Exprs_after_33 rfl 2 rfl ?_
      refine mv_iload_n (pc := 34) B d_Exprs_after_34 rfl 0 rfl ?_
      refine mv_callVv (pc := 35) (n := 1) (ci := 6) (C := R_Exprs) B (mK_ok sk sv) hNs rfl rfl (c_Exprs_endBinaries_b l hi _ _ (lvl v4) z25 (by omega) (hB0.rf hF hP ht2) ht2 hX hI hlen hbs) rfl (ma_goodc kc_Exprs_endBinaries) (B.2.2.2.1 _ k_1485) (B.2.2.2.1 _ k_1487) (B.2.2.2.1 _ ks_56) (B.2.2.2.1 _ k_7) ⟨by decide +kernel, by decide +kernel, by decide +kernel⟩ rfl d_Exprs_after_35 rfl (Nat.le_of_ble_eq_true rfl) ⟨by decide, by decide⟩ ⟨by decide, by decide⟩ ⟨by decide, by decide⟩ (mv_noH hno _) (fun σ35 h35 => ?_)
      obtain ⟨f35, ms3, s3, hX, hI, hl35, t35⟩ := h35
      have t35 := congrFun t35 7
      have hk3 : mv_a σ35 4 (mv_i σ35 3 7).toNatClampNeg = v4 := by rw [f35.2.1 4 (by decide), t35]; exact hk3
      have hR : Rw 48 (mv_r σ35) := by rw [f35.2.2.2.2]; exact hR
      have hF : RF 48 σ σ35 := hF.tr f35
      have hI5 := hI.2.2.2.2.1
      have ha9 := hI.2.2.2.2.2.1
      have pl := hI.len hX
      have hm8 := hX.1.1
      have t7 := hI.1
      have hw9 := hI.2.1
      have t9 : (mv_i σ35 3 9).toInt = (mv_i σ35 3 9).toInt := rfl
      have hd8 := hI.2.2.1
      have hd9 := hI.2.2.2.1
      have hWm := hI.2.2.2.2.2.2
      have kp : mv_a σ35 4 = mv_a σ 4 := hF.2.1 4 (by decide)
      have t8 : (mv_i σ35 3 8).toInt = (mv_i σ35 3 8).toInt := rfl
      have hkn : ¬ v4 = 0 ∧ ¬ v4 = 1 ∧ ¬ v4 = 2 := ⟨fun q => by rw [q] at hlv; exact absurd hlv (by decide), fun q => by rw [q] at hlv; exact absurd hlv (by decide), fun q => by rw [q] at hlv; exact absurd hlv (by decide)⟩
      obtain ⟨j1, j2, j3, j4, j5, j6, j7, j8⟩ := lvl_wt (w := 0) hlv
      refine mv_aload_n (pc := 38) B d_Exprs_after_38 rfl 2 rfl ?_
      refine mv_iload_n (pc := 39) B d_Exprs_after_39 rfl 1 rfl ?_
      refine mv_aload_n (pc := 40) B d_Exprs_after_40 rfl 2 rfl ?_
      refine mv_getR (pc := 41) (ci := 6) (C := R_Exprs) (T := F_Exprs) (N := 11) B 0 rfl rfl (by decide) i_Exprs (B.2.2.2.1 _ k_193) rfl (hR.1 _ 0 _ rfl) d_Exprs_after_41 ?_
      refine mv_iload_n (pc := 44) B d_Exprs_after_44 rfl 1 rfl ?_
      refine mv_callVi (pc := 45) (n := 1) (ci := 2) (C := R_Tokens) B (mK_ok sk sv) hNs rfl rfl (c_Tokens_takeN l hi _ _ hR.1 (hB0.rf hF hP ht2).2.1 (by omega) (by omega) hkn) rfl (ma_goodc kc_Tokens_take) (B.2.2.2.1 _ k_1424) (B.2.2.2.1 _ k_1267) (B.2.2.2.1 _ k_1268) (B.2.2.2.1 _ k_3) ⟨by decide +kernel, by decide +kernel, by decide +kernel⟩ rfl d_Exprs_after_45 rfl (Nat.le_of_ble_eq_true rfl) ⟨by decide, by decide⟩ ⟨by decide, by decide⟩ ⟨by decide, by decide⟩ (mv_noH hno _) (fun v45 σ45 h45 => ?_)
      obtain ⟨a45, w45, e45, r45⟩ := h45
      have q45 := r45.1
      have z45 := fun q => (r45.2.1 q).1
      have y45 := And.intro r45.2.2.2.1 r45.2.2.2.2.1
      subst e45
      have hw6 := r45.2.2.1 hw9 hk3 trivial
      refine mv_gen (fun S48 eS48 => ?_)
      have hR : Rw 48 (mv_r S48) := by rw [eS48]; exact hR
      have hF : RF 48 σ S48 := by rw [eS48]; exact hF.tk3 _ _ _
      have hX : XM 48 th e0 bs BL f0 g0 ns S48 (ms3) (sm wt ms3 + 1) (sm wr ms3 + 1) (s3) := by rw [eS48]; exact hX.tk3 hP _ _ _
      have t7 : (mv_i S48 3 7).toInt = a45.toInt := by rw [eS48]; rfl
      have t8 : (mv_i S48 3 8).toInt = (mv_i σ35 3 8).toInt := by rw [eS48]; first | exact t8 | exact (sub_one (by omega)).trans (by omega) | exact (i32_inc (by omega)).trans (by omega)
      have t9 : (mv_i S48 3 9).toInt = w45.toInt := by rw [eS48]; rfl
      have kS48 : mv_a S48 4 = mv_a σ 4 := by rw [eS48]; first | rfl | exact kp
      have kp := kS48
      clear eS48
      refine mv_callVv (pc := 48) (n := 2) (ci := 6) (C := R_Exprs) B (mK_ok sk sv) hNs rfl rfl (c_Exprs_mark l hi _ _ _ hR.1 (by have := hX.1.1; omega) (by have := hX.1.1; omega)) rfl (ma_goodc kc_Exprs_mark) (B.2.2.2.1 _ k_1416) (B.2.2.2.1 _ k_1418) (B.2.2.2.1 _ ks_48) (B.2.2.2.1 _ k_7) ⟨by decide +kernel, by decide +kernel, by decide +kernel⟩ rfl d_Exprs_after_48 rfl (Nat.le_of_ble_eq_true rfl) ⟨by decide, by decide⟩ ⟨by decide, by decide⟩ ⟨by decide, by decide⟩ (mv_noH hno _) (fun σ48 h48 => ?_)
      subst h48
      refine mv_gen (fun S51 eS51 => ?_)
      have hR : Rw 48 (mv_r S51) := by rw [eS51]; exact hR
      have hF : RF 48 σ S51 := by rw [eS51]; exact hF.mark _ _
      have hX : XM 48 th e0 bs BL f0 g0 ns S51 (((v4, 0) : Mk) :: ms3) (sm wt ms3 + 1) (sm wr ms3 + 1) (s3) := by rw [eS51]; exact hX.mark hP (by omega) ⟨y45.1, by omega⟩ ⟨j5, j6, j7⟩ (fun _ => hl35)
      have t7 := Eq.trans (congrArg Int32.toInt (show mv_i S51 3 7 = mv_i _ 3 7 by rw [eS51]; rfl)) t7
      have t8 := Eq.trans (congrArg Int32.toInt (show mv_i S51 3 8 = mv_i _ 3 8 by rw [eS51]; rfl)) t8
      have t9 := Eq.trans (congrArg Int32.toInt (show mv_i S51 3 9 = mv_i _ 3 9 by rw [eS51]; rfl)) t9
      have kp := Eq.trans (show mv_a S51 4 = mv_a _ 4 by rw [eS51]; rfl) kp
      have y1 : sm wt (((v4, 0) : Mk) :: ms3) = wt (v4, 0) + sm wt ms3 := rfl
      have y2 : sm wr (((v4, 0) : Mk) :: ms3) = wr (v4, 0) + sm wr ms3 := rfl
      have y3 : sm wd (((v4, 0) : Mk) :: ms3) = wd (v4, 0) + sm wd ms3 := rfl
      have y4 : sm wc (((v4, 0) : Mk) :: ms3) = wc (v4, 0) + sm wc ms3 := rfl
      clear eS51
      refine mv_iconst (pc := 51) (v := 0) B d_Exprs_after_51 (by decide) ?_
      exact mv_iret (pc := 52) B hr rfl d_Exprs_after_52 (Nat.le_refl _) (Nat.le_refl _) ⟨_, rfl, hF, hX.1.2.2.2.1, Or.inr ⟨Or.inl rfl, Or.inr ⟨((v4, 0) : Mk) :: ms3, s3, a + 1, by omega, by rw [y1, y2, j1, j2, Nat.add_comm 1, Nat.add_comm 1]; exact hX, by omega, by omega, by omega, by omega, by omega, by omega, (hWm.up (by omega)).cons (fun q => absurd q j8)⟩⟩⟩
  · skip
    rw [h11] at hk3
    refine mv_aload_n (pc := 14) B d_Exprs_after_14 rfl 1 rfl ?_
    refine mv_callVv (pc := 15) (n := 0) (ci := 6) (C := R_Exprs) B (mK_ok sk sv) hNs rfl rfl (c_Exprs_part_b l hi _ hB0 ht2 hX hI hlen hbs hk3) rfl (ma_goodc kc_Exprs_part) (B.2.2.2.1 _ k_1464) (B.2.2.2.1 _ k_1466) (B.2.2.2.1 _ ks_54) (B.2.2.2.1 _ k_7) ⟨by decide +kernel, by decide +kernel, by decide +kernel⟩ rfl d_Exprs_after_15 rfl (Nat.le_of_ble_eq_true rfl) ⟨by decide, by decide⟩ ⟨by decide, by decide⟩ ⟨by decide, by decide⟩ (mv_noH hno _) (fun σ15 h15 => ?_)
    refine mv_iconst (pc := 18) (v := 1) B d_Exprs_after_18 (by decide) ?_
    exact mv_iret (pc := 19) B hr rfl d_Exprs_after_19 (Nat.le_refl _) (Nat.le_refl _) ⟨_, rfl, h15.1, h15.2.1, Or.inr ⟨Or.inr rfl, h15.2.2⟩⟩
set_option maxHeartbeats 4000000 in
set_option maxRecDepth 100000 in
theorem c_Exprs_after_c (l : Launch) {dA : FieldType → ClassId} {D : va_G} {al : Nat → Nat} {sk sv : Nat → Nat} (hi : mv_inj (mg dA D al me)) (σ : mv_H) {t len n z sz th sl e0 bs ns : Nat} {BL : (Nat → Nat) → Prop} {f0 : Nat → Int32} {g0 : Nat → Int64} {ms : List Mk} {s0 bd a : Nat} (hB0 : SB 145 σ t len n z sz th sl) (ht2 : t = 1 ∨ t = 144) (hX : XM 145 th e0 bs BL f0 g0 ns σ (ms) (sm wt ms + 1) (sm wr ms + 1) (s0)) (hI : TI σ sz bd ms s0 a) (hlen : len ≤ 8192) (hbs : bs ≤ 1) : mv_C l y_Exprs_after (Cond.code y_Exprs_after b_Exprs_after 3 (Option.some Jvm.ClassFile.FieldType.int) :: ma) ({ frames := 5, cells := 0, slots := 0, locals := 112 }) (mg dA D al me) (mK sk sv) [.ref (al 22)] σ (mv_Ri (fun v σ1 => RF 145 σ σ1 ∧ Mt (mv_a σ1 24) ∧ ((v = 2 ∧ ∃ s2, XM 145 th e0 bs BL f0 g0 ns σ1 ([]) (1) (1) (s2) ∧ TI σ1 sz bd [] s2 a) ∨ ((v = 0 ∨ v = 1) ∧ (0 ≤ (mv_i σ1 3 9).toInt ∨ ∃ ms2 s2 a2, a < a2 ∧ XM 145 th e0 bs BL f0 g0 ns σ1 (ms2) (sm wt ms2 + v.toNatClampNeg) (sm wr ms2 + v.toNatClampNeg) (s2) ∧ TI σ1 sz bd ms2 s2 a2))))) := by
  refine mv_C.ofV (cc := b_Exprs_after) (nL := 3) (ret := (Option.some Jvm.ClassFile.FieldType.int)) (by decide +kernel) rfl hi (Nat.le_of_ble_eq_true rfl) ?_
  intro p e s m below meth c B hNs hr hnm hno
  have hP : PQ 145 := by unfold PQ; omega
  have hR := hB0.1
  have hF : RF 145 σ σ := RF0
  have hT : mv_i σ 3 = mv_i σ 3 := rfl
  have hsz := hB0.2.1.2.2.2.2.2
  have hsz2 := hB0.2.1.2.2.2.1
  have hI5 := hI.2.2.2.2.1
  have ha9 := hI.2.2.2.2.2.1
  have pl := hI.len hX
  have hm8 := hX.1.1
  have t7 := hI.1
  have hw9 := hI.2.1
  have t9 : (mv_i σ 3 9).toInt = (mv_i σ 3 9).toInt := rfl
  have hd8 := hI.2.2.1
  have hd9 := hI.2.2.2.1
  have hWm := hI.2.2.2.2.2.2
  have kp : mv_a σ 4 = mv_a σ 4 := rfl
  have t8 : (mv_i σ 3 8).toInt = (mv_i σ 3 8).toInt := rfl
  refine mv_aload_n (pc := 0) B d_Exprs_after_0 rfl 0 rfl ?_
  refine mv_getR (pc := 1) (ci := 6) (C := R_Exprs) (T := F_Exprs) (N := 11) B 0 rfl rfl (by decide) i_Exprs (B.2.2.2.1 _ k_193) rfl (hR.1 _ 0 _ rfl) d_Exprs_after_1 ?_
  refine mv_callVi (pc := 4) (n := 0) (ci := 2) (C := R_Tokens) B (mK_ok sk sv) hNs rfl rfl (c_Tokens_kind l hi _ hR.1 (i32_in (by omega) (by omega))) rfl (ma_goodc kc_Tokens_kind) (B.2.2.2.1 _ k_1414) (B.2.2.2.1 _ k_1271) (B.2.2.2.1 _ k_1272) (B.2.2.2.1 _ k_3) ⟨by decide +kernel, by decide +kernel, by decide +kernel⟩ rfl d_Exprs_after_4 rfl (Nat.le_of_ble_eq_true rfl) ⟨by decide, by decide⟩ ⟨by decide, by decide⟩ ⟨by decide, by decide⟩ (mv_noH hno _) (fun v4 σ4 h4 => ?_)
  obtain ⟨e4, z4⟩ := h4
  have e4 := e4.symm
  subst e4
  have hk3 : mv_a σ 4 (mv_i σ 3 7).toNatClampNeg = v4 := (z4.trans (if_pos (lt0.mpr hw9))).symm
  clear z4
  refine mv_istore_n (pc := 7) B d_Exprs_after_7 rfl (by decide) rfl ?_
  refine mv_iload_n (pc := 8) B d_Exprs_after_8 rfl 0 rfl ?_
  refine mv_bipush (pc := 9) (v := 91) B d_Exprs_after_9 (by decide) ?_
  refine mv_icmp_ne (pc := 11) (tgt := 20) B d_Exprs_after_11 rfl (fun h11 => ?_) (fun h11 => ?_)
  · skip
    refine mv_aload_n (pc := 20) B d_Exprs_after_20 rfl 1 rfl ?_
    refine mv_callVv (pc := 21) (n := 0) (ci := 6) (C := R_Exprs) B (mK_ok sk sv) hNs rfl rfl (c_Exprs_endSigns_c l hi _ hB0 ht2 hX hI hlen hbs) rfl (ma_goodc kc_Exprs_endSigns) (B.2.2.2.1 _ k_1478) (B.2.2.2.1 _ k_1480) (B.2.2.2.1 _ ks_55) (B.2.2.2.1 _ k_7) ⟨by decide +kernel, by decide +kernel, by decide +kernel⟩ rfl d_Exprs_after_21 rfl (Nat.le_of_ble_eq_true rfl) ⟨by decide, by decide⟩ ⟨by decide, by decide⟩ ⟨by decide, by decide⟩ (mv_noH hno _) (fun σ21 h21 => ?_)
    obtain ⟨f21, ms2, s2, hX, hI, t21, u21⟩ := h21
    have hk3 : mv_a σ21 4 (mv_i σ21 3 7).toNatClampNeg = v4 := by rw [f21.2.1 4 (by decide), t21]; exact hk3
    have hR : Rw 145 (mv_r σ21) := by rw [f21.2.2.2.2]; exact hR
    have hF : RF 145 σ σ21 := hF.tr f21
    refine mv_iload_n (pc := 24) B d_Exprs_after_24 rfl 0 rfl ?_
    refine mv_callSi (pc := 25) (n := 1) B (mK_ok sk sv) hNs (c_Exprs_levelOf l hi _ _) rfl (ma_goodc kc_Exprs_levelOf) (B.2.2.2.1 _ k_1482) (B.2.2.2.1 _ k_1483) (B.2.2.2.1 _ k_7) ⟨by decide +kernel, by decide +kernel, by decide +kernel⟩ rfl d_Exprs_after_25 rfl (Nat.le_of_ble_eq_true rfl) ⟨by decide, by decide⟩ ⟨by decide, by decide⟩ ⟨by decide, by decide⟩ (mv_noH hno _) (fun v25 σ25 h25 => ?_)
    obtain ⟨e25, z25⟩ := h25
    have e25 := e25.symm
    subst e25
    refine mv_istore_n (pc := 28) B d_Exprs_after_28 rfl (by decide) rfl ?_
    refine mv_iload_n (pc := 29) B d_Exprs_after_29 rfl 0 rfl ?_
    refine mv_if_le (pc := 30) (tgt := 53) B d_Exprs_after_30 rfl (fun h30 => ?_) (fun h30 => ?_)
    · skip
      refine mv_aload_n (pc := 53) B d_Exprs_after_53 rfl 2 rfl ?_
      refine mv_iconst (pc := 54) (v := 1) B d_Exprs_after_54 (by decide) ?_
      refine mv_callVv (pc := 55) (n := 1) (ci := 6) (C := R_Exprs) B (mK_ok sk sv) hNs rfl rfl (c_Exprs_endBinaries_c l hi _ _ 1 rfl (by omega) (hB0.rf hF hP ht2) ht2 hX hI hlen hbs) rfl (ma_goodc kc_Exprs_endBinaries) (B.2.2.2.1 _ k_1485) (B.2.2.2.1 _ k_1487) (B.2.2.2.1 _ ks_56) (B.2.2.2.1 _ k_7) ⟨by decide +kernel, by decide +kernel, by decide +kernel⟩ rfl d_Exprs_after_55 rfl (Nat.le_of_ble_eq_true rfl) ⟨by decide, by decide⟩ ⟨by decide, by decide⟩ ⟨by decide, by decide⟩ (mv_noH hno _) (fun σ55 h55 => ?_)
      obtain ⟨f55, ms3, s3, hX, hI, hl55, t55⟩ := h55
      have t55 := congrFun t55 7
      have hk3 : mv_a σ55 4 (mv_i σ55 3 7).toNatClampNeg = v4 := by rw [f55.2.1 4 (by decide), t55]; exact hk3
      have hR : Rw 145 (mv_r σ55) := by rw [f55.2.2.2.2]; exact hR
      have hF : RF 145 σ σ55 := hF.tr f55
      refine mv_iload_n (pc := 58) B d_Exprs_after_58 rfl 1 rfl ?_
      refine mv_bipush (pc := 59) (v := 63) B d_Exprs_after_59 (by decide) ?_
      refine mv_icmp_ne (pc := 61) (tgt := 70) B d_Exprs_after_61 rfl (fun h61 => ?_) (fun h61 => ?_)
      · skip
        refine mv_aload_n (pc := 70) B d_Exprs_after_70 rfl 2 rfl ?_
        refine mv_callVv (pc := 71) (n := 0) (ci := 6) (C := R_Exprs) B (mK_ok sk sv) hNs rfl rfl (c_Exprs_endChoices_c l hi _ (hB0.rf hF hP ht2) ht2 hX hI hlen hbs) rfl (ma_goodc kc_Exprs_endChoices) (B.2.2.2.1 _ k_1497) (B.2.2.2.1 _ k_1499) (B.2.2.2.1 _ ks_59) (B.2.2.2.1 _ k_7) ⟨by decide +kernel, by decide +kernel, by decide +kernel⟩ rfl d_Exprs_after_71 rfl (Nat.le_of_ble_eq_true rfl) ⟨by decide, by decide⟩ ⟨by decide, by decide⟩ ⟨by decide, by decide⟩ (mv_noH hno _) (fun σ71 h71 => ?_)
        obtain ⟨f71, ms4, s4, hX, hI, t71, u71⟩ := h71
        have hk3 : mv_a σ71 4 (mv_i σ71 3 7).toNatClampNeg = v4 := by rw [f71.2.1 4 (by decide), t71]; exact hk3
        have hR : Rw 145 (mv_r σ71) := by rw [f71.2.2.2.2]; exact hR
        have hF : RF 145 σ σ71 := hF.tr f71
        refine mv_aload_n (pc := 74) B d_Exprs_after_74 rfl 2 rfl ?_
        refine mv_getI (pc := 75) (ci := 6) (C := R_Exprs) (T := F_Exprs) (N := 11) B 8 rfl rfl (by decide) i_Exprs (B.2.2.2.1 _ k_202) rfl d_Exprs_after_75 ?_
        refine mv_if_ne (pc := 78) (tgt := 83) B d_Exprs_after_78 rfl (fun h78 => ?_) (fun h78 => ?_)
        · skip
          obtain ⟨k8, w8, ms5, ems⟩ := hX.ne (Decidable.byContradiction fun q => h78 (Int32.toInt_inj.mp (by have := hX.1.1; show (mv_i σ71 22 8).toInt = 0; omega)))
          subst ems
          refine mv_aload_n (pc := 83) B d_Exprs_after_83 rfl 2 rfl ?_
          refine mv_iload_n (pc := 84) B d_Exprs_after_84 rfl 1 rfl ?_
          refine mv_callVi (pc := 85) (n := 1) (ci := 6) (C := R_Exprs) B (mK_ok sk sv) hNs rfl rfl (c_Exprs_goOn_c l hi _ _ _ _ (hB0.rf hF hP ht2) ht2 hX hI hlen hbs hk3) rfl (ma_goodc kc_Exprs_goOn) (B.2.2.2.1 _ k_1502) (B.2.2.2.1 _ k_1504) (B.2.2.2.1 _ ks_60) (B.2.2.2.1 _ k_7) ⟨by decide +kernel, by decide +kernel, by decide +kernel⟩ rfl d_Exprs_after_85 rfl (Nat.le_of_ble_eq_true rfl) ⟨by decide, by decide⟩ ⟨by decide, by decide⟩ ⟨by decide, by decide⟩ (mv_noH hno _) (fun v85 σ85 h85 => ?_)
          exact mv_iret (pc := 88) B hr rfl d_Exprs_after_88 (Nat.le_refl _) (Nat.le_refl _) ⟨_, rfl, hF.tr h85.1, h85.2.1, Or.inr ⟨h85.2.2.1, h85.2.2.2⟩⟩
        · skip
          have enil := hX.nil (by rw [h78]; decide)
          subst enil
          refine mv_iconst (pc := 81) (v := 2) B d_Exprs_after_81 (by decide) ?_
          exact mv_iret (pc := 82) B hr rfl d_Exprs_after_82 (Nat.le_refl _) (Nat.le_refl _) ⟨_, rfl, hF, hX.1.2.2.2.1, Or.inl ⟨rfl, s4, hX, hI⟩⟩
      · skip
        rw [h61] at hk3
        refine mv_aload_n (pc := 64) B d_Exprs_after_64 rfl 2 rfl ?_
        refine mv_callVv (pc := 65) (n := 0) (ci := 6) (C := R_Exprs) B (mK_ok sk sv) hNs rfl rfl (c_Exprs_choose_c l hi _ (hB0.rf hF hP ht2) ht2 hX hI hlen hbs hk3) rfl (ma_goodc kc_Exprs_choose) (B.2.2.2.1 _ k_1493) (B.2.2.2.1 _ k_1495) (B.2.2.2.1 _ ks_58) (B.2.2.2.1 _ k_7) ⟨by decide +kernel, by decide +kernel, by decide +kernel⟩ rfl d_Exprs_after_65 rfl (Nat.le_of_ble_eq_true rfl) ⟨by decide, by decide⟩ ⟨by decide, by decide⟩ ⟨by decide, by decide⟩ (mv_noH hno _) (fun σ65 h65 => ?_)
        refine mv_iconst (pc := 68) (v := 0) B d_Exprs_after_68 (by decide) ?_
        exact mv_iret (pc := 69) B hr rfl d_Exprs_after_69 (Nat.le_refl _) (Nat.le_refl _) ⟨_, rfl, hF.tr h65.1, h65.2.1, Or.inr ⟨Or.inl rfl, h65.2.2⟩⟩
    · skip
      rw [Int32.le_iff_toInt_le] at h30
      simp only [Int32.reduceToInt] at h30
      have hlv : 0 < lvl v4 := by omega
      refine mv_aload_n (pc := 33) B d_Exprs_after_33 rfl 2 rfl ?_
      refine mv_iload_n (pc := 34) B d_Exprs_after_34 rfl 0 rfl ?_
      refine mv_callVv (pc := 35) (n := 1) (ci := 6) (C := R_Exprs) B (mK_ok sk sv) hNs rfl rfl (c_Exprs_endBinaries_c l hi _ _ (lvl v4) z25 (by omega) (hB0.rf hF hP ht2) ht2 hX hI hlen hbs) rfl (ma_goodc kc_Exprs_endBinaries) (B.2.2.2.1 _ k_1485) (B.2.2.2.1 _ k_1487) (B.2.2.2.1 _ ks_56) (B.2.2.2.1 _ k_7) ⟨by decide +kernel, by decide +kernel, by decide +kernel⟩ rfl d_Exprs_after_35 rfl (Nat.le_of_ble_eq_true rfl) ⟨by decide, by decide⟩ ⟨by decide, by decide⟩ ⟨by decide, by decide⟩ (mv_noH hno _) (fun σ35 h35 => ?_)
      obtain ⟨f35, ms3, s3, hX, hI, hl35, t35⟩ := h35
      have t35 := congrFun t35 7
      have hk3 : mv_a σ35 4 (mv_i σ35 3 7).toNatClampNeg = v4 := by rw [f35.2.1 4 (by decide), t35]; exact hk3
      have hR : Rw 145 (mv_r σ35) := by rw [f35.2.2.2.2]; exact hR
      have hF : RF 145 σ σ35 := hF.tr f35
      have hI5 := hI.2.2.2.2.1
      have ha9 := hI.2.2.2.2.2.1
      have pl := hI.len hX
      have hm8 := hX.1.1
      have t7 := hI.1
      have hw9 := hI.2.1
      have t9 : (mv_i σ35 3 9).toInt = (mv_i σ35 3 9).toInt := rfl
      have hd8 := hI.2.2.1
      have hd9 := hI.2.2.2.1
      have hWm := hI.2.2.2.2.2.2
      have kp : mv_a σ35 4 = mv_a σ 4 := hF.2.1 4 (by decide)
      have t8 : (mv_i σ35 3 8).toInt = (mv_i σ35 3 8).toInt := rfl
      have hkn : ¬ v4 = 0 ∧ ¬ v4 = 1 ∧ ¬ v4 = 2 := ⟨fun q => by rw [q] at hlv; exact absurd hlv (by decide), fun q => by rw [q] at hlv; exact absurd hlv (by decide), fun q => by rw [q] at hlv; exact absurd hlv (by decide)⟩
      obtain ⟨j1, j2, j3, j4, j5, j6, j7, j8⟩ := lvl_wt (w := 0) hlv
      refine mv_aload_n (pc := 38) B d_Exprs_after_38 rfl 2 rfl ?_
      refine mv_iload_n (pc := 39) B d_Exprs_after_39 rfl 1 rfl ?_
      refine mv_aload_n (pc := 40) B d_Exprs_after_40 rfl 2 rfl ?_
      refine mv_getR (pc := 41) (ci := 6) (C := R_Exprs) (T := F_Exprs) (N := 11) B 0 rfl rfl (by decide) i_Exprs (B.2.2.2.1 _ k_193) rfl (hR.1 _ 0 _ rfl) d_Exprs_after_41 ?_
      refine mv_iload_n (pc := 44) B d_Exprs_after_44 rfl 1 rfl ?_
      refine mv_callVi (pc := 45) (n := 1) (ci := 2) (C := R_Tokens) B (mK_ok sk sv) hNs rfl rfl (c_Tokens_takeN l hi _ _ hR.1 (hB0.rf hF hP ht2).2.1 (by omega) (by omega) hkn) rfl (ma_goodc kc_Tokens_take) (B.2.2.2.1 _ k_1424) (B.2.2.2.1 _ k_1267) (B.2.2.2.1 _ k_1268) (B.2.2.2.1 _ k_3) ⟨by decide +kernel, by decide +kernel, by decide +kernel⟩ rfl d_Exprs_after_45 rfl (Nat.le_of_ble_eq_true rfl) ⟨by decide, by decide⟩ ⟨by decide, by decide⟩ ⟨by decide, by decide⟩ (mv_noH hno _) (fun v45 σ45 h45 => ?_)
      obtain ⟨a45, w45, e45, r45⟩ := h45
      have q45 := r45.1
      have z45 := fun q => (r45.2.1 q).1
      have y45 := And.intro r45.2.2.2.1 r45.2.2.2.2.1
      subst e45
      have hw6 := r45.2.2.1 hw9 hk3 trivial
      refine mv_gen (fun S48 eS48 => ?_)
      have hR : Rw 145 (mv_r S48) := by rw [eS48]; exact hR
      have hF : RF 145 σ S48 := by rw [eS48]; exact hF.tk3 _ _ _
      have hX : XM 145 th e0 bs BL f0 g0 ns S48 (ms3) (sm wt ms3 + 1) (sm wr ms3 + 1) (s3) := by rw [eS48]; exact hX.tk3 hP _ _ _
      have t7 : (mv_i S48 3 7).toInt = a45.toInt := by rw [eS48]; rfl
      have t8 : (mv_i S48 3 8).toInt = (mv_i σ35 3 8).toInt := by rw [eS48]; first | exact t8 | exact (sub_one (by omega)).trans (by omega) | exact (i32_inc (by omega)).trans (by omega)
      have t9 : (mv_i S48 3 9).toInt = w45.toInt := by rw [eS48]; rfl
      have kS48 : mv_a S48 4 = mv_a σ 4 := by rw [eS48]; first | rfl | exact kp
      have kp := kS48
      clear eS48
      refine mv_callVv (pc := 48) (n := 2) (ci := 6) (C := R_Exprs) B (mK_ok sk sv) hNs rfl rfl (c_Exprs_mark l hi _ _ _ hR.1 (by have := hX.1.1; omega) (by have := hX.1.1; omega)) rfl (ma_goodc kc_Exprs_mark) (B.2.2.2.1 _ k_1416) (B.2.2.2.1 _ k_1418) (B.2.2.2.1 _ ks_48) (B.2.2.2.1 _ k_7) ⟨by decide +kernel, by decide +kernel, by decide +kernel⟩ rfl d_Exprs_after_48 rfl (Nat.le_of_ble_eq_true rfl) ⟨by decide, by decide⟩ ⟨by decide, by decide⟩ ⟨by decide, by decide⟩ (mv_noH hno _) (fun σ48 h48 => ?_)
      subst h48
      refine mv_gen (fun S51 eS51 => ?_)
      have hR : Rw 145 (mv_r S51) := by rw [eS51]; exact hR
      have hF : RF 145 σ S51 := by rw [eS51]; exact hF.mark _ _
      have hX : XM 145 th e0 bs BL f0 g0 ns S51 (((v4, 0) : Mk) :: ms3) (sm wt ms3 + 1) (sm wr ms3 + 1) (s3) := by rw [eS51]; exact hX.mark hP (by omega) ⟨y45.1, by omega⟩ ⟨j5, j6, j7⟩ (fun _ => hl35)
      have t7 := Eq.trans (congrArg Int32.toInt (show mv_i S51 3 7 = mv_i _ 3 7 by rw [eS51]; rfl)) t7
      have t8 := Eq.trans (congrArg Int32.toInt (show mv_i S51 3 8 = mv_i _ 3 8 by rw [eS51]; rfl)) t8
      have t9 := Eq.trans (congrArg Int32.toInt (show mv_i S51 3 9 = mv_i _ 3 9 by rw [eS51]; rfl)) t9
      have kp := Eq.trans (show mv_a S51 4 = mv_a _ 4 by rw [eS51]; rfl) kp
      have y1 : sm wt (((v4, 0) : Mk) :: ms3) = wt (v4, 0) + sm wt ms3 := rfl
      have y2 : sm wr (((v4, 0) : Mk) :: ms3) = wr (v4, 0) + sm wr ms3 := rfl
      have y3 : sm wd (((v4, 0) : Mk) :: ms3) = wd (v4, 0) + sm wd ms3 := rfl
      have y4 : sm wc (((v4, 0) : Mk) :: ms3) = wc (v4, 0) + sm wc ms3 := rfl
      clear eS51
      refine mv_iconst (pc := 51) (v := 0) B d_Exprs_after_51 (by decide) ?_
      exact mv_iret (pc := 52) B hr rfl d_Exprs_after_52 (Nat.le_refl _) (Nat.le_refl _) ⟨_, rfl, hF, hX.1.2.2.2.1, Or.inr ⟨Or.inl rfl, Or.inr ⟨((v4, 0) : Mk) :: ms3, s3, a + 1, by omega, by rw [y1, y2, j1, j2, Nat.add_comm 1, Nat.add_comm 1]; exact hX, by omega, by omega, by omega, by omega, by omega, by omega, (hWm.up (by omega)).cons (fun q => absurd q j8)⟩⟩⟩
  · skip
    rw [h11] at hk3
    refine mv_aload_n (pc := 14) B d_Exprs_after_14 rfl 1 rfl ?_
    refine mv_callVv (pc := 15) (n := 0) (ci := 6) (C := R_Exprs) B (mK_ok sk sv) hNs rfl rfl (c_Exprs_part_c l hi _ hB0 ht2 hX hI hlen hbs hk3) rfl (ma_goodc kc_Exprs_part) (B.2.2.2.1 _ k_1464) (B.2.2.2.1 _ k_1466) (B.2.2.2.1 _ ks_54) (B.2.2.2.1 _ k_7) ⟨by decide +kernel, by decide +kernel, by decide +kernel⟩ rfl d_Exprs_after_15 rfl (Nat.le_of_ble_eq_true rfl) ⟨by decide, by decide⟩ ⟨by decide, by decide⟩ ⟨by decide, by decide⟩ (mv_noH hno _) (fun σ15 h15 => ?_)
    refine mv_iconst (pc := 18) (v := 1) B d_Exprs_after_18 (by decide) ?_
    exact mv_iret (pc := 19) B hr rfl d_Exprs_after_19 (Nat.le_refl _) (Nat.le_refl _) ⟨_, rfl, h15.1, h15.2.1, Or.inr ⟨Or.inr rfl, h15.2.2⟩⟩
