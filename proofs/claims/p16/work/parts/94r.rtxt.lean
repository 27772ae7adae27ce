/-! exact runs over abstract heaps: the reference's statements, items, text -/
def f_Book_letStatement_95 (P : Nat) (x1 : Int32) (x2 : Int32) (x3 : Int32) (hz : mv_H) : Option (Option Int32 × mv_H) := bif xvi (mv_i hz P 35) 4100 then xk (mv_sa hz (P + 14) ((mv_i hz P 35)).toNatClampNeg x1) fun g2 => bif xvi (mv_i g2 P 35) 4100 then xk (mv_sa g2 (P + 15) ((mv_i g2 P 35)).toNatClampNeg x2) fun g4 => bif xvi x3 33000 then bif xvi (mv_i g4 P 35) 4100 then xk (mv_sa g4 (P + 16) ((mv_i g4 P 35)).toNatClampNeg (mv_a g4 (P + 23) (x3).toNatClampNeg)) fun g7 => bif xvi (mv_i g7 P 35) 4100 then xk (mv_sa g7 (P + 17) ((mv_i g7 P 35)).toNatClampNeg (mv_i g7 P 36)) fun g9 => xk (mv_si g9 P 35 ((mv_i g9 P 35) + (1 : Int32))) fun g10 => xk (mv_si g10 P 36 ((mv_i g10 P 36) + (1 : Int32))) fun g11 => xhb (f_Book_node P g11 (14 : Int32) ((mv_i g11 P 36) - (1 : Int32)) x3 (0 : Int32) (0 : Int32)) fun u13 g12 => some (some u13, g12) else none else none else none else none else none
def f_Book_letStatement_62 (P : Nat) (x1 : Int32) (hz : mv_H) : Option (Option Int32 × mv_H) := xhv (f_Book_fault P hz (2 : Int32) x1) fun g14 => xhb (f_Book_node P g14 (13 : Int32) (0 : Int32) (0 : Int32) (0 : Int32) (0 : Int32)) fun u17 g16 => some (some u17, g16)
def f_Book_letStatement (P : Nat) (h : mv_H) : Option (Option Int32 × mv_H) := xtb (f_Book_pass P h) fun u19 g18 => xtb (f_Book_name P g18) fun u21 g20 => xtb (f_Book_need P g20 (61 : Int32)) fun u23 g22 => xtb (f_BookR P 868 0 0 g22) fun u25 g24 => xtb (f_Book_need P g24 (59 : Int32)) fun u27 g26 => xhb (f_Book_let P g26 (mv_i g20 P 49) (mv_i g20 P 50)) fun u29 g28 => if (0 : Int32) ≤ u29 then (f_Book_letStatement_62 P (mv_i g20 P 49) g28) else (xhb (f_Book_isField P g28 (mv_i g20 P 49) (mv_i g20 P 50)) fun u31 g30 => if u31 = (0 : Int32) then (xhb (f_Book_thing P g30 (mv_i g20 P 49) (mv_i g20 P 50)) fun u33 g32 => if u33 < (0 : Int32) then (if (mv_i g32 P 36) < (64 : Int32) then (f_Book_letStatement_95 P (mv_i g20 P 49) (mv_i g20 P 50) u25 g32) else (xhv (f_Book_fault P g32 (6 : Int32) (mv_i g20 P 49)) fun g34 => f_Book_letStatement_95 P (mv_i g20 P 49) (mv_i g20 P 50) u25 g34)) else (f_Book_letStatement_62 P (mv_i g20 P 49) g32)) else (f_Book_letStatement_62 P (mv_i g20 P 49) g30))
set_option maxHeartbeats 4000000 in
set_option maxRecDepth 100000 in
theorem ch_Book_letStatement_x (l : Launch) {dA : FieldType → ClassId} {D : va_G} {al : Nat → Nat} {ext : mv_Sh} {sk sv : Nat → Nat} (hi : mv_inj (mg dA D al ext)) (h : mv_H) (hb : Br 74 (mv_r h))  {rv : Option Int32} {rg : mv_H} (hf : f_Book_letStatement 74 h = some (rv, rg)) : mv_C l y_Book_letStatement (Cond.code y_Book_letStatement b_Book_letStatement 4 (Option.some Jvm.ClassFile.FieldType.int) :: ma) ({ frames := 876, cells := 0, slots := 0, locals := 52504 }) (mg dA D al ext) (mK sk sv) [.ref (al 74)] h (mv_Ui (fun v σ1 => rv = some v ∧ rg = σ1 ∧ mv_r σ1 = mv_r h) ("MachineLoomModel$Book$Wrong", al 107) (fun σ1 => rv = none ∧ rg = σ1 ∧ mv_r σ1 = mv_r h)) := by
  refine mv_C.ofV (cc := b_Book_letStatement) (nL := 4) (ret := (Option.some Jvm.ClassFile.FieldType.int)) (by decide +kernel) rfl hi (Nat.le_of_ble_eq_true rfl) ?_
  intro p e s m below meth c B hNs hr hnm hno
  have jn95 : ∀ (x1 : Int32) (x2 : Int32) (x3 : Int32) (hz : mv_H), mv_r hz = mv_r h → f_Book_letStatement_95 74 x1 x2 x3 hz = some (rv, rg) → mv_V p l e ({ frames := 876, cells := 0, slots := 0, locals := 52504 }) s m ([.ref (al 74)] : List Value).toArray below meth c (mg dA D al ext) 4 0 0 (mv_Q (mg dA D al ext) below s 0 0 (mv_Ui (fun v σ1 => rv = some v ∧ rg = σ1 ∧ mv_r σ1 = mv_r h) ("MachineLoomModel$Book$Wrong", al 107) (fun σ1 => rv = none ∧ rg = σ1 ∧ mv_r σ1 = mv_r h))) hz 95 [(0, .ref (al 74)), (1, .int x1), (2, .int x2), (3, .int x3)] [] := by
    intro x1 x2 x3 hz r_hz hf
    unfold f_Book_letStatement_95 at hf
    refine mv_aload_n (pc := 95) B d_Book_letStatement_95 rfl 0 rfl ?_
    refine mv_getR (pc := 96) (ci := 12) (C := R_Book) (T := F_Book) (N := 65) B 31 rfl rfl (by decide) i_Book (B.2.2.2.1 _ k_1877) rfl ((congrFun (congrFun r_hz 74) 31).trans (hb.1 74 31 _ rfl)) d_Book_letStatement_96 ?_
    refine mv_aload_n (pc := 99) B d_Book_letStatement_99 rfl 0 rfl ?_
    refine mv_getI (pc := 100) (ci := 12) (C := R_Book) (T := F_Book) (N := 65) B 35 rfl rfl (by decide) i_Book (B.2.2.2.1 _ k_1881) rfl d_Book_letStatement_100 ?_
    refine mv_iload_n (pc := 103) B d_Book_letStatement_103 rfl 1 rfl ?_
    obtain ⟨q1, hf⟩ := xvi_e hf
    refine mv_iast (pc := 104) B rfl q1 d_Book_letStatement_104 ?_
    refine mvh_hp (R9 := mv_r h) hf r_hz (fun g2 hf r_g2 => ?_)
    refine mv_aload_n (pc := 105) B d_Book_letStatement_105 rfl 0 rfl ?_
    refine mv_getR (pc := 106) (ci := 12) (C := R_Book) (T := F_Book) (N := 65) B 32 rfl rfl (by decide) i_Book (B.2.2.2.1 _ k_1878) rfl ((congrFun (congrFun r_g2 74) 32).trans (hb.1 74 32 _ rfl)) d_Book_letStatement_106 ?_
    refine mv_aload_n (pc := 109) B d_Book_letStatement_109 rfl 0 rfl ?_
    refine mv_getI (pc := 110) (ci := 12) (C := R_Book) (T := F_Book) (N := 65) B 35 rfl rfl (by decide) i_Book (B.2.2.2.1 _ k_1881) rfl d_Book_letStatement_110 ?_
    refine mv_iload_n (pc := 113) B d_Book_letStatement_113 rfl 2 rfl ?_
    obtain ⟨q3, hf⟩ := xvi_e hf
    refine mv_iast (pc := 114) B rfl q3 d_Book_letStatement_114 ?_
    refine mvh_hp (R9 := mv_r h) hf r_g2 (fun g4 hf r_g4 => ?_)
    refine mv_aload_n (pc := 115) B d_Book_letStatement_115 rfl 0 rfl ?_
    refine mv_getR (pc := 116) (ci := 12) (C := R_Book) (T := F_Book) (N := 65) B 33 rfl rfl (by decide) i_Book (B.2.2.2.1 _ k_1879) rfl ((congrFun (congrFun r_g4 74) 33).trans (hb.1 74 33 _ rfl)) d_Book_letStatement_116 ?_
    refine mv_aload_n (pc := 119) B d_Book_letStatement_119 rfl 0 rfl ?_
    refine mv_getI (pc := 120) (ci := 12) (C := R_Book) (T := F_Book) (N := 65) B 35 rfl rfl (by decide) i_Book (B.2.2.2.1 _ k_1881) rfl d_Book_letStatement_120 ?_
    refine mv_aload_n (pc := 123) B d_Book_letStatement_123 rfl 0 rfl ?_
    refine mv_getR (pc := 124) (ci := 12) (C := R_Book) (T := F_Book) (N := 65) B 45 rfl rfl (by decide) i_Book (B.2.2.2.1 _ k_1894) rfl ((congrFun (congrFun r_g4 74) 45).trans (hb.1 74 45 _ rfl)) d_Book_letStatement_124 ?_
    refine mv_iload_n (pc := 127) B d_Book_letStatement_127 rfl 3 rfl ?_
    obtain ⟨q5, hf⟩ := xvi_e hf
    refine mv_iald (pc := 128) B rfl q5 d_Book_letStatement_128 ?_
    obtain ⟨q6, hf⟩ := xvi_e hf
    refine mv_iast (pc := 129) B rfl q6 d_Book_letStatement_129 ?_
    refine mvh_hp (R9 := mv_r h) hf r_g4 (fun g7 hf r_g7 => ?_)
    refine mv_aload_n (pc := 130) B d_Book_letStatement_130 rfl 0 rfl ?_
    refine mv_getR (pc := 131) (ci := 12) (C := R_Book) (T := F_Book) (N := 65) B 34 rfl rfl (by decide) i_Book (B.2.2.2.1 _ k_1880) rfl ((congrFun (congrFun r_g7 74) 34).trans (hb.1 74 34 _ rfl)) d_Book_letStatement_131 ?_
    refine mv_aload_n (pc := 134) B d_Book_letStatement_134 rfl 0 rfl ?_
    refine mv_getI (pc := 135) (ci := 12) (C := R_Book) (T := F_Book) (N := 65) B 35 rfl rfl (by decide) i_Book (B.2.2.2.1 _ k_1881) rfl d_Book_letStatement_135 ?_
    refine mv_aload_n (pc := 138) B d_Book_letStatement_138 rfl 0 rfl ?_
    refine mv_getI (pc := 139) (ci := 12) (C := R_Book) (T := F_Book) (N := 65) B 36 rfl rfl (by decide) i_Book (B.2.2.2.1 _ k_1882) rfl d_Book_letStatement_139 ?_
    obtain ⟨q8, hf⟩ := xvi_e hf
    refine mv_iast (pc := 142) B rfl q8 d_Book_letStatement_142 ?_
    refine mvh_hp (R9 := mv_r h) hf r_g7 (fun g9 hf r_g9 => ?_)
    refine mv_aload_n (pc := 143) B d_Book_letStatement_143 rfl 0 rfl ?_
    refine mv_dup (pc := 144) B d_Book_letStatement_144 rfl ?_
    refine mv_getI (pc := 145) (ci := 12) (C := R_Book) (T := F_Book) (N := 65) B 35 rfl rfl (by decide) i_Book (B.2.2.2.1 _ k_1881) rfl d_Book_letStatement_145 ?_
    refine mv_iconst (pc := 148) (v := 1) B d_Book_letStatement_148 (by decide) ?_
    refine mv_iadd (pc := 149) B d_Book_letStatement_149 ?_
    refine mv_putI (pc := 150) (ci := 12) (C := R_Book) (T := F_Book) (N := 65) B 35 rfl rfl (by decide) i_Book t_Book_ok n_Book (B.2.2.2.1 _ k_1881) rfl rfl rfl rfl d_Book_letStatement_150 ?_
    refine mvh_hp (R9 := mv_r h) hf r_g9 (fun g10 hf r_g10 => ?_)
    refine mv_aload_n (pc := 153) B d_Book_letStatement_153 rfl 0 rfl ?_
    refine mv_dup (pc := 154) B d_Book_letStatement_154 rfl ?_
    refine mv_getI (pc := 155) (ci := 12) (C := R_Book) (T := F_Book) (N := 65) B 36 rfl rfl (by decide) i_Book (B.2.2.2.1 _ k_1882) rfl d_Book_letStatement_155 ?_
    refine mv_iconst (pc := 158) (v := 1) B d_Book_letStatement_158 (by decide) ?_
    refine mv_iadd (pc := 159) B d_Book_letStatement_159 ?_
    refine mv_putI (pc := 160) (ci := 12) (C := R_Book) (T := F_Book) (N := 65) B 36 rfl rfl (by decide) i_Book t_Book_ok n_Book (B.2.2.2.1 _ k_1882) rfl rfl rfl rfl d_Book_letStatement_160 ?_
    refine mvh_hp (R9 := mv_r h) hf r_g10 (fun g11 hf r_g11 => ?_)
    refine mv_aload_n (pc := 163) B d_Book_letStatement_163 rfl 0 rfl ?_
    refine mv_bipush (pc := 164) (v := 14) B d_Book_letStatement_164 (by decide) ?_
    refine mv_aload_n (pc := 166) B d_Book_letStatement_166 rfl 0 rfl ?_
    refine mv_getI (pc := 167) (ci := 12) (C := R_Book) (T := F_Book) (N := 65) B 36 rfl rfl (by decide) i_Book (B.2.2.2.1 _ k_1882) rfl d_Book_letStatement_167 ?_
    refine mv_iconst (pc := 170) (v := 1) B d_Book_letStatement_170 (by decide) ?_
    refine mv_isub (pc := 171) B d_Book_letStatement_171 ?_
    refine mv_iload_n (pc := 172) B d_Book_letStatement_172 rfl 3 rfl ?_
    refine mv_iconst (pc := 173) (v := 0) B d_Book_letStatement_173 (by decide) ?_
    refine mv_iconst (pc := 174) (v := 0) B d_Book_letStatement_174 (by decide) ?_
    obtain ⟨u13, g12, eg12, hf⟩ := xhb_e hf
    refine mv_callVi (pc := 175) (n := 5) (ci := 12) (C := R_Book) B (mK_ok sk sv) hNs rfl rfl (ch_Book_node_x l hi _ (xrw r_g11 hb) _ _ _ _ _ eg12) rfl (ma_goodc kc_Book_node) (B.2.2.2.1 _ k_2269) (B.2.2.2.1 _ k_2271) (B.2.2.2.1 _ ks_110) (B.2.2.2.1 _ k_13) ⟨by decide +kernel, by decide +kernel, by decide +kernel⟩ rfl d_Book_letStatement_175 rfl (Nat.le_of_ble_eq_true rfl) ⟨by first | decide | (dsimp only; omega), by first | decide | (dsimp only; omega)⟩ ⟨Nat.le_refl _, Nat.le_refl _⟩ ⟨Nat.le_refl _, Nat.le_refl _⟩ (mv_noH hno _) (fun w175 σ175 h175 => ?_)
    obtain ⟨rfl, rfl, s_g12⟩ := h175
    have r_g12 : mv_r g12 = mv_r h := s_g12.trans r_g11
    exact mv_iret (pc := 178) B hr rfl d_Book_letStatement_178 (Nat.le_refl _) (Nat.le_refl _) (Or.inl ⟨_, rfl, xrt_i hf r_g12⟩)
  have jn62 : ∀ (x1 : Int32) (hz : mv_H), mv_r hz = mv_r h → f_Book_letStatement_62 74 x1 hz = some (rv, rg) → mv_V p l e ({ frames := 876, cells := 0, slots := 0, locals := 52504 }) s m ([.ref (al 74)] : List Value).toArray below meth c (mg dA D al ext) 4 0 0 (mv_Q (mg dA D al ext) below s 0 0 (mv_Ui (fun v σ1 => rv = some v ∧ rg = σ1 ∧ mv_r σ1 = mv_r h) ("MachineLoomModel$Book$Wrong", al 107) (fun σ1 => rv = none ∧ rg = σ1 ∧ mv_r σ1 = mv_r h))) hz 62 [(0, .ref (al 74)), (1, .int x1)] [] := by
    intro x1 hz r_hz hf
    unfold f_Book_letStatement_62 at hf
    refine mv_aload_n (pc := 62) B d_Book_letStatement_62 rfl 0 rfl ?_
    refine mv_iconst (pc := 63) (v := 2) B d_Book_letStatement_63 (by decide) ?_
    refine mv_iload_n (pc := 64) B d_Book_letStatement_64 rfl 1 rfl ?_
    obtain ⟨g14, eg14, hf⟩ := xhv_e hf
    refine mv_callVv (pc := 65) (n := 2) (ci := 12) (C := R_Book) B (mK_ok sk sv) hNs rfl rfl (ch_Book_fault_x l hi _ _ _ eg14) rfl (ma_goodc kc_Book_fault) (B.2.2.2.1 _ k_2185) (B.2.2.2.1 _ k_2187) (B.2.2.2.1 _ ks_92) (B.2.2.2.1 _ k_13) ⟨by decide +kernel, by decide +kernel, by decide +kernel⟩ rfl d_Book_letStatement_65 rfl (Nat.le_of_ble_eq_true rfl) ⟨by first | decide | (dsimp only; omega), by first | decide | (dsimp only; omega)⟩ ⟨Nat.le_refl _, Nat.le_refl _⟩ ⟨Nat.le_refl _, Nat.le_refl _⟩ (mv_noH hno _) (fun σ65 h65 => ?_)
    obtain ⟨rfl, s_g14⟩ := h65
    have r_g14 : mv_r g14 = mv_r h := s_g14.trans r_hz
    refine mv_aload_n (pc := 68) B d_Book_letStatement_68 rfl 0 rfl ?_
    refine mv_bipush (pc := 69) (v := 13) B d_Book_letStatement_69 (by decide) ?_
    refine mv_iconst (pc := 71) (v := 0) B d_Book_letStatement_71 (by decide) ?_
    refine mv_iconst (pc := 72) (v := 0) B d_Book_letStatement_72 (by decide) ?_
    refine mv_iconst (pc := 73) (v := 0) B d_Book_letStatement_73 (by decide) ?_
    refine mv_iconst (pc := 74) (v := 0) B d_Book_letStatement_74 (by decide) ?_
    obtain ⟨u17, g16, eg16, hf⟩ := xhb_e hf
    refine mv_callVi (pc := 75) (n := 5) (ci := 12) (C := R_Book) B (mK_ok sk sv) hNs rfl rfl (ch_Book_node_x l hi _ (xrw r_g14 hb) _ _ _ _ _ eg16) rfl (ma_goodc kc_Book_node) (B.2.2.2.1 _ k_2269) (B.2.2.2.1 _ k_2271) (B.2.2.2.1 _ ks_110) (B.2.2.2.1 _ k_13) ⟨by decide +kernel, by decide +kernel, by decide +kernel⟩ rfl d_Book_letStatement_75 rfl (Nat.le_of_ble_eq_true rfl) ⟨by first | decide | (dsimp only; omega), by first | decide | (dsimp only; omega)⟩ ⟨Nat.le_refl _, Nat.le_refl _⟩ ⟨Nat.le_refl _, Nat.le_refl _⟩ (mv_noH hno _) (fun w75 σ75 h75 => ?_)
    obtain ⟨rfl, rfl, s_g16⟩ := h75
    have r_g16 : mv_r g16 = mv_r h := s_g16.trans r_g14
    exact mv_iret (pc := 78) B hr rfl d_Book_letStatement_78 (Nat.le_refl _) (Nat.le_refl _) (Or.inl ⟨_, rfl, xrt_i hf r_g16⟩)
  unfold f_Book_letStatement at hf
  refine mv_aload_n (pc := 0) B d_Book_letStatement_0 rfl 0 rfl ?_
  obtain ⟨og18, g18, eg18, hf⟩ := xtb_e hf
  refine mv_callVUv (pc := 1) (n := 0) (ci := 12) (C := R_Book) B (mK_ok sk sv) hNs rfl rfl (ch_Book_pass_x l hi _ (hb) eg18) rfl (ma_goodc kc_Book_pass) (B.2.2.2.1 _ k_2173) (B.2.2.2.1 _ k_2175) (B.2.2.2.1 _ ks_90) (B.2.2.2.1 _ k_13) ⟨by decide +kernel, by decide +kernel, by decide +kernel⟩ rfl d_Book_letStatement_1 rfl (Nat.le_of_ble_eq_true rfl) ⟨by first | decide | (dsimp only; omega), by first | decide | (dsimp only; omega)⟩ ⟨Nat.le_refl _, Nat.le_refl _⟩ ⟨Nat.le_refl _, Nat.le_refl _⟩ (mv_noH hno _) (fun τ9 g9 => Or.inr ⟨rfl, xth hf g9 rfl⟩) (fun σ1 h1 => ?_)
  obtain ⟨rfl, rfl, s_g18⟩ := h1
  have hf := xt2_s hf
  have r_g18 : mv_r g18 = mv_r h := s_g18.trans rfl
  refine mv_aload_n (pc := 4) B d_Book_letStatement_4 rfl 0 rfl ?_
  obtain ⟨og20, g20, eg20, hf⟩ := xtb_e hf
  refine mv_callVUv (pc := 5) (n := 0) (ci := 12) (C := R_Book) B (mK_ok sk sv) hNs rfl rfl (ch_Book_name_x l hi _ (xrw r_g18 hb) eg20) rfl (ma_goodc kc_Book_name) (B.2.2.2.1 _ k_2194) (B.2.2.2.1 _ k_2196) (B.2.2.2.1 _ ks_94) (B.2.2.2.1 _ k_13) ⟨by decide +kernel, by decide +kernel, by decide +kernel⟩ rfl d_Book_letStatement_5 rfl (Nat.le_of_ble_eq_true rfl) ⟨by first | decide | (dsimp only; omega), by first | decide | (dsimp only; omega)⟩ ⟨Nat.le_refl _, Nat.le_refl _⟩ ⟨Nat.le_refl _, Nat.le_refl _⟩ (mv_noH hno _) (fun τ9 g9 => Or.inr ⟨rfl, xth hf g9 r_g18⟩) (fun σ5 h5 => ?_)
  obtain ⟨rfl, rfl, s_g20⟩ := h5
  have hf := xt2_s hf
  have r_g20 : mv_r g20 = mv_r h := s_g20.trans r_g18
  refine mv_aload_n (pc := 8) B d_Book_letStatement_8 rfl 0 rfl ?_
  refine mv_getI (pc := 9) (ci := 12) (C := R_Book) (T := F_Book) (N := 65) B 49 rfl rfl (by decide) i_Book (B.2.2.2.1 _ k_1898) rfl d_Book_letStatement_9 ?_
  refine mv_istore_n (pc := 12) B d_Book_letStatement_12 rfl (by decide) rfl ?_
  refine mv_aload_n (pc := 13) B d_Book_letStatement_13 rfl 1 rfl ?_
  refine mv_getI (pc := 14) (ci := 12) (C := R_Book) (T := F_Book) (N := 65) B 50 rfl rfl (by decide) i_Book (B.2.2.2.1 _ k_1899) rfl d_Book_letStatement_14 ?_
  refine mv_istore_n (pc := 17) B d_Book_letStatement_17 rfl (by decide) rfl ?_
  refine mv_aload_n (pc := 18) B d_Book_letStatement_18 rfl 2 rfl ?_
  refine mv_bipush (pc := 19) (v := 61) B d_Book_letStatement_19 (by decide) ?_
  obtain ⟨og22, g22, eg22, hf⟩ := xtb_e hf
  refine mv_callVUv (pc := 21) (n := 1) (ci := 12) (C := R_Book) B (mK_ok sk sv) hNs rfl rfl (ch_Book_need_x l hi _ (xrw r_g20 hb) _ eg22) rfl (ma_goodc kc_Book_need) (B.2.2.2.1 _ k_2177) (B.2.2.2.1 _ k_2179) (B.2.2.2.1 _ ks_91) (B.2.2.2.1 _ k_13) ⟨by decide +kernel, by decide +kernel, by decide +kernel⟩ rfl d_Book_letStatement_21 rfl (Nat.le_of_ble_eq_true rfl) ⟨by first | decide | (dsimp only; omega), by first | decide | (dsimp only; omega)⟩ ⟨Nat.le_refl _, Nat.le_refl _⟩ ⟨Nat.le_refl _, Nat.le_refl _⟩ (mv_noH hno _) (fun τ9 g9 => Or.inr ⟨rfl, xth hf g9 r_g20⟩) (fun σ21 h21 => ?_)
  obtain ⟨rfl, rfl, s_g22⟩ := h21
  have hf := xt2_s hf
  have r_g22 : mv_r g22 = mv_r h := s_g22.trans r_g20
  refine mv_aload_n (pc := 24) B d_Book_letStatement_24 rfl 2 rfl ?_
  obtain ⟨og24, g24, eg24, hf⟩ := xtb_e hf
  refine mv_callVUi (pc := 25) (n := 0) (ci := 12) (C := R_Book) B (mK_ok sk sv) hNs rfl rfl ((rec_x l hi 868).1 _ _ _ _ (xrw r_g22 hb) eg24) rfl (ma_goodc kc_Book_expression) (B.2.2.2.1 _ k_2245) (B.2.2.2.1 _ k_2247) (B.2.2.2.1 _ ks_104) (B.2.2.2.1 _ k_13) ⟨by decide +kernel, by decide +kernel, by decide +kernel⟩ rfl d_Book_letStatement_25 rfl (Nat.le_of_ble_eq_true rfl) ⟨by first | decide | (dsimp only; omega), by first | decide | (dsimp only; omega)⟩ ⟨Nat.le_refl _, Nat.le_refl _⟩ ⟨Nat.le_refl _, Nat.le_refl _⟩ (mv_noH hno _) (fun τ9 g9 => Or.inr ⟨rfl, xth hf g9 r_g22⟩) (fun u25 σ25 h25 => ?_)
  obtain ⟨rfl, rfl, s_g24⟩ := h25
  have hf := xt2_s hf
  have r_g24 : mv_r g24 = mv_r h := s_g24.trans r_g22
  refine mv_istore_n (pc := 28) B d_Book_letStatement_28 rfl (by decide) rfl ?_
  refine mv_aload_n (pc := 29) B d_Book_letStatement_29 rfl 3 rfl ?_
  refine mv_bipush (pc := 30) (v := 59) B d_Book_letStatement_30 (by decide) ?_
  obtain ⟨og26, g26, eg26, hf⟩ := xtb_e hf
  refine mv_callVUv (pc := 32) (n := 1) (ci := 12) (C := R_Book) B (mK_ok sk sv) hNs rfl rfl (ch_Book_need_x l hi _ (xrw r_g24 hb) _ eg26) rfl (ma_goodc kc_Book_need) (B.2.2.2.1 _ k_2177) (B.2.2.2.1 _ k_2179) (B.2.2.2.1 _ ks_91) (B.2.2.2.1 _ k_13) ⟨by decide +kernel, by decide +kernel, by decide +kernel⟩ rfl d_Book_letStatement_32 rfl (Nat.le_of_ble_eq_true rfl) ⟨by first | decide | (dsimp only; omega), by first | decide | (dsimp only; omega)⟩ ⟨Nat.le_refl _, Nat.le_refl _⟩ ⟨Nat.le_refl _, Nat.le_refl _⟩ (mv_noH hno _) (fun τ9 g9 => Or.inr ⟨rfl, xth hf g9 r_g24⟩) (fun σ32 h32 => ?_)
  obtain ⟨rfl, rfl, s_g26⟩ := h32
  have hf := xt2_s hf
  have r_g26 : mv_r g26 = mv_r h := s_g26.trans r_g24
  refine mv_aload_n (pc := 35) B d_Book_letStatement_35 rfl 3 rfl ?_
  refine mv_iload_n (pc := 36) B d_Book_letStatement_36 rfl 2 rfl ?_
  refine mv_iload_n (pc := 37) B d_Book_letStatement_37 rfl 1 rfl ?_
  obtain ⟨u29, g28, eg28, hf⟩ := xhb_e hf
  refine mv_callVi (pc := 38) (n := 2) (ci := 12) (C := R_Book) B (mK_ok sk sv) hNs rfl rfl (ch_Book_let_x l hi _ (xrw r_g26 hb) _ _ eg28) rfl (ma_goodc kc_Book_let) (B.2.2.2.1 _ k_2305) (B.2.2.2.1 _ k_2307) (B.2.2.2.1 _ ks_116) (B.2.2.2.1 _ k_13) ⟨by decide +kernel, by decide +kernel, by decide +kernel⟩ rfl d_Book_letStatement_38 rfl (Nat.le_of_ble_eq_true rfl) ⟨by first | decide | (dsimp only; omega), by first | decide | (dsimp only; omega)⟩ ⟨Nat.le_refl _, Nat.le_refl _⟩ ⟨Nat.le_refl _, Nat.le_refl _⟩ (mv_noH hno _) (fun w38 σ38 h38 => ?_)
  obtain ⟨rfl, rfl, s_g28⟩ := h38
  have r_g28 : mv_r g28 = mv_r h := s_g28.trans r_g26
  refine mv_if_ge (pc := 41) (tgt := 62) B d_Book_letStatement_41 rfl (fun h41 => ?_) (fun h41 => ?_)
  · skip
    have hf := xif_t h41 hf
    refine mv_lpick [3, 2] rfl ?_
    exact jn62 _ _ r_g28 hf
  · skip
    have hf := xif_f h41 hf
    refine mv_aload_n (pc := 44) B d_Book_letStatement_44 rfl 3 rfl ?_
    refine mv_iload_n (pc := 45) B d_Book_letStatement_45 rfl 2 rfl ?_
    refine mv_iload_n (pc := 46) B d_Book_letStatement_46 rfl 1 rfl ?_
    obtain ⟨u31, g30, eg30, hf⟩ := xhb_e hf
    refine mv_callVi (pc := 47) (n := 2) (ci := 12) (C := R_Book) B (mK_ok sk sv) hNs rfl rfl (ch_Book_isField_x l hi _ (xrw r_g28 hb) _ _ eg30) rfl (ma_goodc kc_Book_isField) (B.2.2.2.1 _ k_2309) (B.2.2.2.1 _ k_2311) (B.2.2.2.1 _ ks_117) (B.2.2.2.1 _ k_13) ⟨by decide +kernel, by decide +kernel, by decide +kernel⟩ rfl d_Book_letStatement_47 rfl (Nat.le_of_ble_eq_true rfl) ⟨by first | decide | (dsimp only; omega), by first | decide | (dsimp only; omega)⟩ ⟨Nat.le_refl _, Nat.le_refl _⟩ ⟨Nat.le_refl _, Nat.le_refl _⟩ (mv_noH hno _) (fun w47 σ47 h47 => ?_)
    obtain ⟨rfl, rfl, s_g30⟩ := h47
    have r_g30 : mv_r g30 = mv_r h := s_g30.trans r_g28
    refine mv_if_ne (pc := 50) (tgt := 62) B d_Book_letStatement_50 rfl (fun h50 => ?_) (fun h50 => ?_)
    · skip
      have hf := xif_f h50 hf
      refine mv_lpick [3, 2] rfl ?_
      exact jn62 _ _ r_g30 hf
    · skip
      have hf := xif_t h50 hf
      refine mv_aload_n (pc := 53) B d_Book_letStatement_53 rfl 3 rfl ?_
      refine mv_iload_n (pc := 54) B d_Book_letStatement_54 rfl 2 rfl ?_
      refine mv_iload_n (pc := 55) B d_Book_letStatement_55 rfl 1 rfl ?_
      obtain ⟨u33, g32, eg32, hf⟩ := xhb_e hf
      refine mv_callVi (pc := 56) (n := 2) (ci := 12) (C := R_Book) B (mK_ok sk sv) hNs rfl rfl (ch_Book_thing_x l hi _ (xrw r_g30 hb) _ _ eg32) rfl (ma_goodc kc_Book_thing) (B.2.2.2.1 _ k_2212) (B.2.2.2.1 _ k_2214) (B.2.2.2.1 _ ks_97) (B.2.2.2.1 _ k_13) ⟨by decide +kernel, by decide +kernel, by decide +kernel⟩ rfl d_Book_letStatement_56 rfl (Nat.le_of_ble_eq_true rfl) ⟨by first | decide | (dsimp only; omega), by first | decide | (dsimp only; omega)⟩ ⟨Nat.le_refl _, Nat.le_refl _⟩ ⟨Nat.le_refl _, Nat.le_refl _⟩ (mv_noH hno _) (fun w56 σ56 h56 => ?_)
      obtain ⟨rfl, rfl, s_g32⟩ := h56
      have r_g32 : mv_r g32 = mv_r h := s_g32.trans r_g30
      refine mv_if_lt (pc := 59) (tgt := 79) B d_Book_letStatement_59 rfl (fun h59 => ?_) (fun h59 => ?_)
      · skip
        have hf := xif_t h59 hf
        refine mv_aload_n (pc := 79) B d_Book_letStatement_79 rfl 3 rfl ?_
        refine mv_getI (pc := 80) (ci := 12) (C := R_Book) (T := F_Book) (N := 65) B 36 rfl rfl (by decide) i_Book (B.2.2.2.1 _ k_1882) rfl d_Book_letStatement_80 ?_
        refine mv_bipush (pc := 83) (v := 64) B d_Book_letStatement_83 (by decide) ?_
        refine mv_icmp_lt (pc := 85) (tgt := 95) B d_Book_letStatement_85 rfl (fun h85 => ?_) (fun h85 => ?_)
        · skip
          have hf := xif_t h85 hf
          refine mv_lpick [3, 2, 1, 0] rfl ?_
          exact jn95 _ _ _ _ r_g32 hf
        · skip
          have hf := xif_f h85 hf
          refine mv_aload_n (pc := 88) B d_Book_letStatement_88 rfl 3 rfl ?_
          refine mv_bipush (pc := 89) (v := 6) B d_Book_letStatement_89 (by decide) ?_
          refine mv_iload_n (pc := 91) B d_Book_letStatement_91 rfl 2 rfl ?_
          obtain ⟨g34, eg34, hf⟩ := xhv_e hf
          refine mv_callVv (pc := 92) (n := 2) (ci := 12) (C := R_Book) B (mK_ok sk sv) hNs rfl rfl (ch_Book_fault_x l hi _ _ _ eg34) rfl (ma_goodc kc_Book_fault) (B.2.2.2.1 _ k_2185) (B.2.2.2.1 _ k_2187) (B.2.2.2.1 _ ks_92) (B.2.2.2.1 _ k_13) ⟨by decide +kernel, by decide +kernel, by decide +kernel⟩ rfl d_Book_letStatement_92 rfl (Nat.le_of_ble_eq_true rfl) ⟨by first | decide | (dsimp only; omega), by first | decide | (dsimp only; omega)⟩ ⟨Nat.le_refl _, Nat.le_refl _⟩ ⟨Nat.le_refl _, Nat.le_refl _⟩ (mv_noH hno _) (fun σ92 h92 => ?_)
          obtain ⟨rfl, s_g34⟩ := h92
          have r_g34 : mv_r g34 = mv_r h := s_g34.trans r_g32
          refine mv_lpick [3, 2, 1, 0] rfl ?_
          exact jn95 _ _ _ _ r_g34 hf
      · skip
        have hf := xif_f h59 hf
        refine mv_lpick [3, 2] rfl ?_
        exact jn62 _ _ r_g32 hf
set_option maxHeartbeats 4000000 in
set_option maxRecDepth 100000 in
theorem ch_Book_letStatement_y (l : Launch) {dA : FieldType → ClassId} {D : va_G} {al : Nat → Nat} {ext : mv_Sh} {sk sv : Nat → Nat} (hi : mv_inj (mg dA D al ext)) (h : mv_H) (hb : Br 108 (mv_r h))  {rv : Option Int32} {rg : mv_H} (hf : f_Book_letStatement 108 h = some (rv, rg)) : mv_C l y_Book_letStatement (Cond.code y_Book_letStatement b_Book_letStatement 4 (Option.some Jvm.ClassFile.FieldType.int) :: ma) ({ frames := 876, cells := 0, slots := 0, locals := 52504 }) (mg dA D al ext) (mK sk sv) [.ref (al 108)] h (mv_Ui (fun v σ1 => rv = some v ∧ rg = σ1 ∧ mv_r σ1 = mv_r h) ("MachineLoomModel$Book$Wrong", al 141) (fun σ1 => rv = none ∧ rg = σ1 ∧ mv_r σ1 = mv_r h)) := by
  refine mv_C.ofV (cc := b_Book_letStatement) (nL := 4) (ret := (Option.some Jvm.ClassFile.FieldType.int)) (by decide +kernel) rfl hi (Nat.le_of_ble_eq_true rfl) ?_
  intro p e s m below meth c B hNs hr hnm hno
  have jn95 : ∀ (x1 : Int32) (x2 : Int32) (x3 : Int32) (hz : mv_H), mv_r hz = mv_r h → f_Book_letStatement_95 108 x1 x2 x3 hz = some (rv, rg) → mv_V p l e ({ frames := 876, cells := 0, slots := 0, locals := 52504 }) s m ([.ref (al 108)] : List Value).toArray below meth c (mg dA D al ext) 4 0 0 (mv_Q (mg dA D al ext) below s 0 0 (mv_Ui (fun v σ1 => rv = some v ∧ rg = σ1 ∧ mv_r σ1 = mv_r h) ("MachineLoomModel$Book$Wrong", al 141) (fun σ1 => rv = none ∧ rg = σ1 ∧ mv_r σ1 = mv_r h))) hz 95 [(0, .ref (al 108)), (1, .int x1), (2, .int x2), (3, .int x3)] [] := by
    intro x1 x2 x3 hz r_hz hf
    unfold f_Book_letStatement_95 at hf
    refine mv_aload_n (pc := 95) B d_Book_letStatement_95 rfl 0 rfl ?_
    refine mv_getR (pc := 96) (ci := 12) (C := R_Book) (T := F_Book) (N := 65) B 31 rfl rfl (by decide) i_Book (B.2.2.2.1 _ k_1877) rfl ((congrFun (congrFun r_hz 108) 31).trans (hb.1 108 31 _ rfl)) d_Book_letStatement_96 ?_
    refine mv_aload_n (pc := 99) B d_Book_letStatement_99 rfl 0 rfl ?_
    refine mv_getI (pc := 100) (ci := 12) (C := R_Book) (T := F_Book) (N := 65) B 35 rfl rfl (by decide) i_Book (B.2.2.2.1 _ k_1881) rfl d_Book_letStatement_100 ?_
    refine mv_iload_n (pc := 103) B d_Book_letStatement_103 rfl 1 rfl ?_
    obtain ⟨q1, hf⟩ := xvi_e hf
    refine mv_iast (pc := 104) B rfl q1 d_Book_letStatement_104 ?_
    refine mvh_hp (R9 := mv_r h) hf r_hz (fun g2 hf r_g2 => ?_)
    refine mv_aload_n (pc := 105) B d_Book_letStatement_105 rfl 0 rfl ?_
    refine mv_getR (pc := 106) (ci := 12) (C := R_Book) (T := F_Book) (N := 65) B 32 rfl rfl (by decide) i_Book (B.2.2.2.1 _ k_1878) rfl ((congrFun (congrFun r_g2 108) 32).trans (hb.1 108 32 _ rfl)) d_Book_letStatement_106 ?_
    refine mv_aload_n (pc := 109) B d_Book_letStatement_109 rfl 0 rfl ?_
    refine mv_getI (pc := 110) (ci := 12) (C := R_Book) (T := F_Book) (N := 65) B 35 rfl rfl (by decide) i_Book (B.2.2.2.1 _ k_1881) rfl d_Book_letStatement_110 ?_
    refine mv_iload_n (pc := 113) B d_Book_letStatement_113 rfl 2 rfl ?_
    obtain ⟨q3, hf⟩ := xvi_e hf
    refine mv_iast (pc := 114) B rfl q3 d_Book_letStatement_114 ?_
    refine mvh_hp (R9 := mv_r h) hf r_g2 (fun g4 hf r_g4 => ?_)
    refine mv_aload_n (pc := 115) B d_Book_letStatement_115 rfl 0 rfl ?_
    refine mv_getR (pc := 116) (ci := 12) (C := R_Book) (T := F_Book) (N := 65) B 33 rfl rfl (by decide) i_Book (B.2.2.2.1 _ k_1879) rfl ((congrFun (congrFun r_g4 108) 33).trans (hb.1 108 33 _ rfl)) d_Book_letStatement_116 ?_
    refine mv_aload_n (pc := 119) B d_Book_letStatement_119 rfl 0 rfl ?_
    refine mv_getI (pc := 120) (ci := 12) (C := R_Book) (T := F_Book) (N := 65) B 35 rfl rfl (by decide) i_Book (B.2.2.2.1 _ k_1881) rfl d_Book_letStatement_120 ?_
    refine mv_aload_n (pc := 123) B d_Book_letStatement_123 rfl 0 rfl ?_
    refine mv_getR (pc := 124) (ci := 12) (C := R_Book) (T := F_Book) (N := 65) B 45 rfl rfl (by decide) i_Book (B.2.2.2.1 _ k_1894) rfl ((congrFun (congrFun r_g4 108) 45).trans (hb.1 108 45 _ rfl)) d_Book_letStatement_124 ?_
    refine mv_iload_n (pc := 127) B d_Book_letStatement_127 rfl 3 rfl ?_
    obtain ⟨q5, hf⟩ := xvi_e hf
    refine mv_iald (pc := 128) B rfl q5 d_Book_letStatement_128 ?_
    obtain ⟨q6, hf⟩ := xvi_e hf
    refine mv_iast (pc := 129) B rfl q6 d_Book_letStatement_129 ?_
    refine mvh_hp (R9 := mv_r h) hf r_g4 (fun g7 hf r_g7 => ?_)
    refine mv_aload_n (pc := 130) B d_Book_letStatement_130 rfl 0 rfl ?_
    refine mv_getR (pc := 131) (ci := 12) (C := R_Book) (T := F_Book) (N := 65) B 34 rfl rfl (by decide) i_Book (B.2.2.2.1 _ k_1880) rfl ((congrFun (congrFun r_g7 108) 34).trans (hb.1 108 34 _ rfl)) d_Book_letStatement_131 ?_
    refine mv_aload_n (pc := 134) B d_Book_letStatement_134 rfl 0 rfl ?_
    refine mv_getI (pc := 135) (ci := 12) (C := R_Book) (T := F_Book) (N := 65) B 35 rfl rfl (by decide) i_Book (B.2.2.2.1 _ k_1881) rfl d_Book_letStatement_135 ?_
    refine mv_aload_n (pc := 138) B d_Book_letStatement_138 rfl 0 rfl ?_
    refine mv_getI (pc := 139) (ci := 12) (C := R_Book) (T := F_Book) (N := 65) B 36 rfl rfl (by decide) i_Book (B.2.2.2.1 _ k_1882) rfl d_Book_letStatement_139 ?_
    obtain ⟨q8, hf⟩ := xvi_e hf
    refine mv_iast (pc := 142) B rfl q8 d_Book_letStatement_142 ?_
    refine mvh_hp (R9 := mv_r h) hf r_g7 (fun g9 hf r_g9 => ?_)
    refine mv_aload_n (pc := 143) B d_Book_letStatement_143 rfl 0 rfl ?_
    refine mv_dup (pc := 144) B d_Book_letStatement_144 rfl ?_
    refine mv_getI (pc := 145) (ci := 12) (C := R_Book) (T := F_Book) (N := 65) B 35 rfl rfl (by decide) i_Book (B.2.2.2.1 _ k_1881) rfl d_Book_letStatement_145 ?_
    refine mv_iconst (pc := 148) (v := 1) B d_Book_letStatement_148 (by decide) ?_
    refine mv_iadd (pc := 149) B d_Book_letStatement_149 ?_
    refine mv_putI (pc := 150) (ci := 12) (C := R_Book) (T := F_Book) (N := 65) B 35 rfl rfl (by decide) i_Book t_Book_ok n_Book (B.2.2.2.1 _ k_1881) rfl rfl rfl rfl d_Book_letStatement_150 ?_
    refine mvh_hp (R9 := mv_r h) hf r_g9 (fun g10 hf r_g10 => ?_)
    refine mv_aload_n (pc := 153) B d_Book_letStatement_153 rfl 0 rfl ?_
    refine mv_dup (pc := 154) B d_Book_letStatement_154 rfl ?_
    refine mv_getI (pc := 155) (ci := 12) (C := R_Book) (T := F_Book) (N := 65) B 36 rfl rfl (by decide) i_Book (B.2.2.2.1 _ k_1882) rfl d_Book_letStatement_155 ?_
    refine mv_iconst (pc := 158) (v := 1) B d_Book_letStatement_158 (by decide) ?_
    refine mv_iadd (pc := 159) B d_Book_letStatement_159 ?_
    refine mv_putI (pc := 160) (ci := 12) (C := R_Book) (T := F_Book) (N := 65) B 36 rfl rfl (by decide) i_Book t_Book_ok n_Book (B.2.2.2.1 _ k_1882) rfl rfl rfl rfl d_Book_letStatement_160 ?_
    refine mvh_hp (R9 := mv_r h) hf r_g10 (fun g11 hf r_g11 => ?_)
    refine mv_aload_n (pc := 163) B d_Book_letStatement_163 rfl 0 rfl ?_
    refine mv_bipush (pc := 164) (v := 14) B d_Book_letStatement_164 (by decide) ?_
    refine mv_aload_n (pc := 166) B d_Book_letStatement_166 rfl 0 rfl ?_
    refine mv_getI (pc := 167) (ci := 12) (C := R_Book) (T := F_Book) (N := 65) B 36 rfl rfl (by decide) i_Book (B.2.2.2.1 _ k_1882) rfl d_Book_letStatement_167 ?_
    refine mv_iconst (pc := 170) (v := 1) B d_Book_letStatement_170 (by decide) ?_
    refine mv_isub (pc := 171) B d_Book_letStatement_171 ?_
    refine mv_iload_n (pc := 172) B d_Book_letStatement_172 rfl 3 rfl ?_
    refine mv_iconst (pc := 173) (v := 0) B d_Book_letStatement_173 (by decide) ?_
    refine mv_iconst (pc := 174) (v := 0) B d_Book_letStatement_174 (by decide) ?_
    obtain ⟨u13, g12, eg12, hf⟩ := xhb_e hf
    refine mv_callVi (pc := 175) (n := 5) (ci := 12) (C := R_Book) B (mK_ok sk sv) hNs rfl rfl (ch_Book_node_y l hi _ (xrw r_g11 hb) _ _ _ _ _ eg12) rfl (ma_goodc kc_Book_node) (B.2.2.2.1 _ k_2269) (B.2.2.2.1 _ k_2271) (B.2.2.2.1 _ ks_110) (B.2.2.2.1 _ k_13) ⟨by decide +kernel, by decide +kernel, by decide +kernel⟩ rfl d_Book_letStatement_175 rfl (Nat.le_of_ble_eq_true rfl) ⟨by first | decide | (dsimp only; omega), by first | decide | (dsimp only; omega)⟩ ⟨Nat.le_refl _, Nat.le_refl _⟩ ⟨Nat.le_refl _, Nat.le_refl _⟩ (mv_noH hno _) (fun w175 σ175 h175 => ?_)
    obtain ⟨rfl, rfl, s_g12⟩ := h175
    have r_g12 : mv_r g12 = mv_r h := s_g12.trans r_g11
    exact mv_iret (pc := 178) B hr rfl d_Book_letStatement_178 (Nat.le_refl _) (Nat.le_refl _) (Or.inl ⟨_, rfl, xrt_i hf r_g12⟩)
  have jn62 : ∀ (x1 : Int32) (hz : mv_H), mv_r hz = mv_r h → f_Book_letStatement_62 108 x1 hz = some (rv, rg) → mv_V p l e ({ frames := 876, cells := 0, slots := 0, locals := 52504 }) s m ([.ref (al 108)] : List Value).toArray below meth c (mg dA D al ext) 4 0 0 (mv_Q (mg dA D al ext) below s 0 0 (mv_Ui (fun v σ1 => rv = some v ∧ rg = σ1 ∧ mv_r σ1 = mv_r h) ("MachineLoomModel$Book$Wrong", al 141) (fun σ1 => rv = none ∧ rg = σ1 ∧ mv_r σ1 = mv_r h))) hz 62 [(0, .ref (al 108)), (1, .int x1)] [] := by
    intro x1 hz r_hz hf
    unfold f_Book_letStatement_62 at hf
    refine mv_aload_n (pc := 62) B d_Book_letStatement_62 rfl 0 rfl ?_
    refine mv_iconst (pc := 63) (v := 2) B d_Book_letStatement_63 (by decide) ?_
    refine mv_iload_n (pc := 64) B d_Book_letStatement_64 rfl 1 rfl ?_
    obtain ⟨g14, eg14, hf⟩ := xhv_e hf
    refine mv_callVv (pc := 65) (n := 2) (ci := 12) (C := R_Book) B (mK_ok sk sv) hNs rfl rfl (ch_Book_fault_y l hi _ _ _ eg14) rfl (ma_goodc kc_Book_fault) (B.2.2.2.1 _ k_2185) (B.2.2.2.1 _ k_2187) (B.2.2.2.1 _ ks_92) (B.2.2.2.1 _ k_13) ⟨by decide +kernel, by decide +kernel, by decide +kernel⟩ rfl d_Book_letStatement_65 rfl (Nat.le_of_ble_eq_true rfl) ⟨by first | decide | (dsimp only; omega), by first | decide | (dsimp only; omega)⟩ ⟨Nat.le_refl _, Nat.le_refl _⟩ ⟨Nat.le_refl _, Nat.le_refl _⟩ (mv_noH hno _) (fun σ65 h65 => ?_)
    obtain ⟨rfl, s_g14⟩ := h65
    have r_g14 : mv_r g14 = mv_r h := s_g14.trans r_hz
    refine mv_aload_n (pc := 68) B d_Book_letStatement_68 rfl 0 rfl ?_
    refine mv_bipush (pc := 69) (v := 13) B d_Book_letStatement_69 (by decide) ?_
    refine mv_iconst (pc := 71) (v := 0) B d_Book_letStatement_71 (by decide) ?_
    refine mv_iconst (pc := 72) (v := 0) B d_Book_letStatement_72 (by decide) ?_
    refine mv_iconst (pc := 73) (v := 0) B d_Book_letStatement_73 (by decide) ?_
    refine mv_iconst (pc := 74) (v := 0) B d_Book_letStatement_74 (by decide) ?_
    obtain ⟨u17, g16, eg16, hf⟩ := xhb_e hf
    refine mv_callVi (pc := 75) (n := 5) (ci := 12) (C := R_Book) B (mK_ok sk sv) hNs rfl rfl (ch_Book_node_y l hi _ (xrw r_g14 hb) _ _ _ _ _ eg16) rfl (ma_goodc kc_Book_node) (B.2.2.2.1 _ k_2269) (B.2.2.2.1 _ k_2271) (B.2.2.2.1 _ ks_110) (B.2.2.2.1 _ k_13) ⟨by decide +kernel, by decide +kernel, by decide +kernel⟩ rfl d_Book_letStatement_75 rfl (Nat.le_of_ble_eq_true rfl) ⟨by first | decide | (dsimp only; omega), by first | decide | (dsimp only; omega)⟩ ⟨Nat.le_refl _, Nat.le_refl _⟩ ⟨Nat.le_refl _, Nat.le_refl _⟩ (mv_noH hno _) (fun w75 σ75 h75 => ?_)
    obtain ⟨rfl, rfl, s_g16⟩ := h75
    have r_g16 : mv_r g16 = mv_r h := s_g16.trans r_g14
    exact mv_iret (pc := 78) B hr rfl d_Book_letStatement_78 (Nat.le_refl _) (Nat.le_refl _) (Or.inl ⟨_, rfl, xrt_i hf r_g16⟩)
  unfold f_Book_letStatement at hf
  refine mv_aload_n (pc := 0) B d_Book_letStatement_0 rfl 0 rfl ?_
  obtain ⟨og18, g18, eg18, hf⟩ := xtb_e hf
  refine mv_callVUv (pc := 1) (n := 0) (ci := 12) (C := R_Book) B (mK_ok sk sv) hNs rfl rfl (ch_Book_pass_y l hi _ (hb) eg18) rfl (ma_goodc kc_Book_pass) (B.2.2.2.1 _ k_2173) (B.2.2.2.1 _ k_2175) (B.2.2.2.1 _ ks_90) (B.2.2.2.1 _ k_13) ⟨by decide +kernel, by decide +kernel, by decide +kernel⟩ rfl d_Book_letStatement_1 rfl (Nat.le_of_ble_eq_true rfl) ⟨by first | decide | (dsimp only; omega), by first | decide | (dsimp only; omega)⟩ ⟨Nat.le_refl _, Nat.le_refl _⟩ ⟨Nat.le_refl _, Nat.le_refl _⟩ (mv_noH hno _) (fun τ9 g9 => Or.inr ⟨rfl, xth hf g9 rfl⟩) (fun σ1 h1 => ?_)
  obtain ⟨rfl, rfl, s_g18⟩ := h1
  have hf := xt2_s hf
  have r_g18 : mv_r g18 = mv_r h := s_g18.trans rfl
  refine mv_aload_n (pc := 4) B d_Book_letStatement_4 rfl 0 rfl ?_
  obtain ⟨og20, g20, eg20, hf⟩ := xtb_e hf
  refine mv_callVUv (pc := 5) (n := 0) (ci := 12) (C := R_Book) B (mK_ok sk sv) hNs rfl rfl (ch_Book_name_y l hi _ (xrw r_g18 hb) eg20) rfl (ma_goodc kc_Book_name) (B.2.2.2.1 _ k_2194) (B.2.2.2.1 _ k_2196) (B.2.2.2.1 _ ks_94) (B.2.2.2.1 _ k_13) ⟨by decide +kernel, by decide +kernel, by decide +kernel⟩ rfl d_Book_letStatement_5 rfl (Nat.le_of_ble_eq_true rfl) ⟨by first | decide | (dsimp only; omega), by first | decide | (dsimp only; omega)⟩ ⟨Nat.le_refl _, Nat.le_refl _⟩ ⟨Nat.le_refl _, Nat.le_refl _⟩ (mv_noH hno _) (fun τ9 g9 => Or.inr ⟨rfl, xth hf g9 r_g18⟩) (fun σ5 h5 => ?_)
  obtain ⟨rfl, rfl, s_g20⟩ := h5
  have hf := xt2_s hf
  have r_g20 : mv_r g20 = mv_r h := s_g20.trans r_g18
  refine mv_aload_n (pc := 8) B d_Book_letStatement_8 rfl 0 rfl ?_
  refine mv_getI (pc := 9) (ci := 12) (C := R_Book) (T := F_Book) (N := 65) B 49 rfl rfl (by decide) i_Book (B.2.2.2.1 _ k_1898) rfl d_Book_letStatement_9 ?_
  refine mv_istore_n (pc := 12) B d_Book_letStatement_12 rfl (by decide) rfl ?_
  refine mv_aload_n (pc := 13) B d_Book_letStatement_13 rfl 1 rfl ?_
  refine mv_getI (pc := 14) (ci := 12) (C := R_Book) (T := F_Book) (N := 65) B 50 rfl rfl (by decide) i_Book (B.2.2.2.1 _ k_1899) rfl d_Book_letStatement_14 ?_
  refine mv_istore_n (pc := 17) B d_Book_letStatement_17 rfl (by decide) rfl ?_
  refine mv_aload_n (pc := 18) B d_Book_letStatement_18 rfl 2 rfl ?_
  refine mv_bipush (pc := 19) (v := 61) B d_Book_letStatement_19 (by decide) ?_
  obtain ⟨og22, g22, eg22, hf⟩ := xtb_e hf
  refine mv_callVUv (pc := 21) (n := 1) (ci := 12) (C := R_Book) B (mK_ok sk sv) hNs rfl rfl (ch_Book_need_y l hi _ (xrw r_g20 hb) _ eg22) rfl (ma_goodc kc_Book_need) (B.2.2.2.1 _ k_2177) (B.2.2.2.1 _ k_2179) (B.2.2.2.1 _ ks_91) (B.2.2.2.1 _ k_13) ⟨by decide +kernel, by decide +kernel, by decide +kernel⟩ rfl d_Book_letStatement_21 rfl (Nat.le_of_ble_eq_true rfl) ⟨by first | decide | (dsimp only; omega), by first | decide | (dsimp only; omega)⟩ ⟨Nat.le_refl _, Nat.le_refl _⟩ ⟨Nat.le_refl _, Nat.le_refl _⟩ (mv_noH hno _) (fun τ9 g9 => Or.inr ⟨rfl, xth hf g9 r_g20⟩) (fun σ21 h21 => ?_)
  obtain ⟨rfl, rfl, s_g22⟩ := h21
  have hf := xt2_s hf
  have r_g22 : mv_r g22 = mv_r h := s_g22.trans r_g20
  refine mv_aload_n (pc := 24) B d_Book_letStatement_24 rfl 2 rfl ?_
  obtain ⟨og24, g24, eg24, hf⟩ := xtb_e hf
  refine mv_callVUi (pc := 25) (n := 0) (ci := 12) (C := R_Book) B (mK_ok sk sv) hNs rfl rfl ((rec_y l hi 868).1 _ _ _ _ (xrw r_g22 hb) eg24) rfl (ma_goodc kc_Book_expression) (B.2.2.2.1 _ k_2245) (B.2.2.2.1 _ k_2247) (B.2.2.2.1 _ ks_104) (B.2.2.2.1 _ k_13) ⟨by decide +kernel, by decide +kernel, by decide +kernel⟩ rfl d_Book_letStatement_25 rfl (Nat.le_of_ble_eq_true rfl) ⟨by first | decide | (dsimp only; omega), by first | decide | (dsimp only; omega)⟩ ⟨Nat.le_refl _, Nat.le_refl _⟩ ⟨Nat.le_refl _, Nat.le_refl _⟩ (mv_noH hno _) (fun τ9 g9 => Or.inr ⟨rfl, xth hf g9 r_g22⟩) (fun u25 σ25 h25 => ?_)
  obtain ⟨rfl, rfl, s_g24⟩ := h25
  have hf := xt2_s hf
  have r_g24 : mv_r g24 = mv_r h := s_g24.trans r_g22
  refine mv_istore_n (pc := 28) B d_Book_letStatement_28 rfl (by decide) rfl ?_
  refine mv_aload_n (pc := 29) B d_Book_letStatement_29 rfl 3 rfl ?_
  refine mv_bipush (pc := 30) (v := 59) B d_Book_letStatement_30 (by decide) ?_
  obtain ⟨og26, g26, eg26, hf⟩ := xtb_e hf
  refine mv_callVUv (pc := 32) (n := 1) (ci := 12) (C := R_Book) B (mK_ok sk sv) hNs rfl rfl (ch_Book_need_y l hi _ (xrw r_g24 hb) _ eg26) rfl (ma_goodc kc_Book_need) (B.2.2.2.1 _ k_2177) (B.2.2.2.1 _ k_2179) (B.2.2.2.1 _ ks_91) (B.2.2.2.1 _ k_13) ⟨by decide +kernel, by decide +kernel, by decide +kernel⟩ rfl d_Book_letStatement_32 rfl (Nat.le_of_ble_eq_true rfl) ⟨by first | decide | (dsimp only; omega), by first | decide | (dsimp only; omega)⟩ ⟨Nat.le_refl _, Nat.le_refl _⟩ ⟨Nat.le_refl _, Nat.le_refl _⟩ (mv_noH hno _) (fun τ9 g9 => Or.inr ⟨rfl, xth hf g9 r_g24⟩) (fun σ32 h32 => ?_)
  obtain ⟨rfl, rfl, s_g26⟩ := h32
  have hf := xt2_s hf
  have r_g26 : mv_r g26 = mv_r h := s_g26.trans r_g24
  refine mv_aload_n (pc := 35) B d_Book_letStatement_35 rfl 3 rfl ?_
  refine mv_iload_n (pc := 36) B d_Book_letStatement_36 rfl 2 rfl ?_
  refine mv_iload_n (pc := 37) B d_Book_letStatement_37 rfl 1 rfl ?_
  obtain ⟨u29, g28, eg28, hf⟩ := xhb_e hf
  refine mv_callVi (pc := 38) (n := 2) (ci := 12) (C := R_Book) B (mK_ok sk sv) hNs rfl rfl (ch_Book_let_y l hi _ (xrw r_g26 hb) _ _ eg28) rfl (ma_goodc kc_Book_let) (B.2.2.2.1 _ k_2305) (B.2.2.2.1 _ k_2307) (B.2.2.2.1 _ ks_116) (B.2.2.2.1 _ k_13) ⟨by decide +kernel, by decide +kernel, by decide +kernel⟩ rfl d_Book_letStatement_38 rfl (Nat.le_of_ble_eq_true rfl) ⟨by first | decide | (dsimp only; omega), by first | decide | (dsimp only; omega)⟩ ⟨Nat.le_refl _, Nat.le_refl _⟩ ⟨Nat.le_refl _, Nat.le_refl _⟩ (mv_noH hno _) (fun w38 σ38 h38 => ?_)
  obtain ⟨rfl, rfl, s_g28⟩ := h38
  have r_g28 : mv_r g28 = mv_r h := s_g28.trans r_g26
  refine mv_if_ge (pc := 41) (tgt := 62) B d_Book_letStatement_41 rfl (fun h41 => ?_) (fun h41 => ?_)
  · skip
    have hf := xif_t h41 hf
    refine mv_lpick [3, 2] rfl ?_
    exact jn62 _ _ r_g28 hf
  · skip
    have hf := xif_f h41 hf
    refine mv_aload_n (pc := 44) B d_Book_letStatement_44 rfl 3 rfl ?_
    refine mv_iload_n (pc := 45) B d_Book_letStatement_45 rfl 2 rfl ?_
    refine mv_iload_n (pc := 46) B d_Book_letStatement_46 rfl 1 rfl ?_
    obtain ⟨u31, g30, eg30, hf⟩ := xhb_e hf
    refine mv_callVi (pc := 47) (n := 2) (ci := 12) (C := R_Book) B (mK_ok sk sv) hNs rfl rfl (ch_Book_isField_y l hi _ (xrw r_g28 hb) _ _ eg30) rfl (ma_goodc kc_Book_isField) (B.2.2.2.1 _ k_2309) (B.2.2.2.1 _ k_2311) (B.2.2.2.1 _ ks_117) (B.2.2.2.1 _ k_13) ⟨by decide +kernel, by decide +kernel, by decide +kernel⟩ rfl d_Book_letStatement_47 rfl (Nat.le_of_ble_eq_true rfl) ⟨by first | decide | (dsimp only; omega), by first | decide | (dsimp only; omega)⟩ ⟨Nat.le_refl _, Nat.le_refl _⟩ ⟨Nat.le_refl _, Nat.le_refl _⟩ (mv_noH hno _) (fun w47 σ47 h47 => ?_)
    obtain ⟨rfl, rfl, s_g30⟩ := h47
    have r_g30 : mv_r g30 = mv_r h := s_g30.trans r_g28
    refine mv_if_ne (pc := 50) (tgt := 62) B d_Book_letStatement_50 rfl (fun h50 => ?_) (fun h50 => ?_)
    · skip
      have hf := xif_f h50 hf
      refine mv_lpick [3, 2] rfl ?_
      exact jn62 _ _ r_g30 hf
    · skip
      have hf := xif_t h50 hf
      refine mv_aload_n (pc := 53) B d_Book_letStatement_53 rfl 3 rfl ?_
      refine mv_iload_n (pc := 54) B d_Book_letStatement_54 rfl 2 rfl ?_
      refine mv_iload_n (pc := 55) B d_Book_letStatement_55 rfl 1 rfl ?_
      obtain ⟨u33, g32, eg32, hf⟩ := xhb_e hf
      refine mv_callVi (pc := 56) (n := 2) (ci := 12) (C := R_Book) B (mK_ok sk sv) hNs rfl rfl (ch_Book_thing_y l hi _ (xrw r_g30 hb) _ _ eg32) rfl (ma_goodc kc_Book_thing) (B.2.2.2.1 _ k_2212) (B.2.2.2.1 _ k_2214) (B.2.2.2.1 _ ks_97) (B.2.2.2.1 _ k_13) ⟨by decide +kernel, by decide +kernel, by decide +kernel⟩ rfl d_Book_letStatement_56 rfl (Nat.le_of_ble_eq_true rfl) ⟨by first | decide | (dsimp only; omega), by first | decide | (dsimp only; omega)⟩ ⟨Nat.le_refl _, Nat.le_refl _⟩ ⟨Nat.le_refl _, Nat.le_refl _⟩ (mv_noH hno _) (fun w56 σ56 h56 => ?_)
      obtain ⟨rfl, rfl, s_g32⟩ := h56
      have r_g32 : mv_r g32 = mv_r h := s_g32.trans r_g30
      refine mv_if_lt (pc := 59) (tgt := 79) B d_Book_letStatement_59 rfl (fun h59 => ?_) (fun h59 => ?_)
      · skip
        have hf := xif_t h59 hf
        refine mv_aload_n (pc := 79) B d_Book_letStatement_79 rfl 3 rfl ?_
        refine mv_getI (pc := 80) (ci := 12) (C := R_Book) (T := F_Book) (N := 65) B 36 rfl rfl (by decide) i_Book (B.2.2.2.1 _ k_1882) rfl d_Book_letStatement_80 ?_
        refine mv_bipush (pc := 83) (v := 64) B d_Book_letStatement_83 (by decide) ?_
        refine mv_icmp_lt (pc := 85) (tgt := 95) B d_Book_letStatement_85 rfl (fun h85 => ?_) (fun h85 => ?_)
        · skip
          have hf := xif_t h85 hf
          refine mv_lpick [3, 2, 1, 0] rfl ?_
          exact jn95 _ _ _ _ r_g32 hf
        · skip
          have hf := xif_f h85 hf
          refine mv_aload_n (pc := 88) B d_Book_letStatement_88 rfl 3 rfl ?_
          refine mv_bipush (pc := 89) (v := 6) B d_Book_letStatement_89 (by decide) ?_
          refine mv_iload_n (pc := 91) B d_Book_letStatement_91 rfl 2 rfl ?_
          obtain ⟨g34, eg34, hf⟩ := xhv_e hf
          refine mv_callVv (pc := 92) (n := 2) (ci := 12) (C := R_Book) B (mK_ok sk sv) hNs rfl rfl (ch_Book_fault_y l hi _ _ _ eg34) rfl (ma_goodc kc_Book_fault) (B.2.2.2.1 _ k_2185) (B.2.2.2.1 _ k_2187) (B.2.2.2.1 _ ks_92) (B.2.2.2.1 _ k_13) ⟨by decide +kernel, by decide +kernel, by decide +kernel⟩ rfl d_Book_letStatement_92 rfl (Nat.le_of_ble_eq_true rfl) ⟨by first | decide | (dsimp only; omega), by first | decide | (dsimp only; omega)⟩ ⟨Nat.le_refl _, Nat.le_refl _⟩ ⟨Nat.le_refl _, Nat.le_refl _⟩ (mv_noH hno _) (fun σ92 h92 => ?_)
          obtain ⟨rfl, s_g34⟩ := h92
          have r_g34 : mv_r g34 = mv_r h := s_g34.trans r_g32
          refine mv_lpick [3, 2, 1, 0] rfl ?_
          exact jn95 _ _ _ _ r_g34 hf
      · skip
        have hf := xif_f h59 hf
        refine mv_lpick [3, 2] rfl ?_
        exact jn62 _ _ r_g32 hf
def f_Book_block_58 (P : Nat) (kS : Nat → mv_H → Option (Option Int32 × mv_H)) (k25 : Int32 → Int32 → Int32 → mv_H → Option (Option Int32 × mv_H)) (x1 : Int32) (x2 : Int32) (x4 : Int32) (hz : mv_H) : Option (Option Int32 × mv_H) := k25 x1 x2 x4 hz
def fF_Book_block_25 (P : Nat) (kS : Nat → mv_H → Option (Option Int32 × mv_H)) (k25 : Int32 → Int32 → Int32 → mv_H → Option (Option Int32 × mv_H)) (x1 : Int32) (x2 : Int32) (x3 : Int32) (hz : mv_H) : Option (Option Int32 × mv_H) := if (mv_i hz P 4) = (125 : Int32) then (xtb (f_Book_need P hz (125 : Int32)) fun u2 g1 => xk (mv_si g1 P 8 ((mv_i g1 P 8) - (1 : Int32))) fun g3 => xk (mv_si g3 P 35 x1) fun g4 => some (some x2, g4)) else (xtb (kS 1 hz) fun u6 g5 => if (0 : Int32) ≤ x3 then (bif xvi x3 33000 then xk (mv_sa g5 (P + 22) (x3).toNatClampNeg u6) fun g8 => f_Book_block_58 P kS k25 x1 x2 u6 g8 else none) else (f_Book_block_58 P kS k25 x1 u6 u6 g5))
def f_Book_block_25 (P : Nat) (kS : Nat → mv_H → Option (Option Int32 × mv_H)) : Nat → Int32 → Int32 → Int32 → mv_H → Option (Option Int32 × mv_H)
  | 0 => fun _ _ _ _ => none
  | nn + 1 => fF_Book_block_25 P kS (f_Book_block_25 P kS nn)
def f_Book_block (P : Nat) (kS : Nat → mv_H → Option (Option Int32 × mv_H)) (h : mv_H) : Option (Option Int32 × mv_H) := xtb (f_Book_need P h (123 : Int32)) fun u10 g9 => xk (mv_si g9 P 8 ((mv_i g9 P 8) + (1 : Int32))) fun g11 => f_Book_block_25 P kS 200000 (mv_i g11 P 35) (-1 : Int32) (-1 : Int32) g11
def f_Book_statement_299 (P : Nat) (kS : Nat → mv_H → Option (Option Int32 × mv_H)) (x3 : Int32) (x6 : Int32) (x7 : Int32) (y0 : Int32) (hz : mv_H) : Option (Option Int32 × mv_H) := xhb (f_Book_node P hz y0 x7 x6 x3 (0 : Int32)) fun u2 g1 => some (some u2, g1)
def f_Book_statement_286 (P : Nat) (kS : Nat → mv_H → Option (Option Int32 × mv_H)) (x3 : Int32) (x4 : Int32) (x6 : Int32) (x7 : Int32) (hz : mv_H) : Option (Option Int32 × mv_H) := if x4 = (0 : Int32) then (f_Book_statement_299 P kS x3 x6 x7 (15 : Int32) hz) else (f_Book_statement_299 P kS x3 x6 x7 (16 : Int32) hz)
def f_Book_statement_255 (P : Nat) (kS : Nat → mv_H → Option (Option Int32 × mv_H)) (x3 : Int32) (x4 : Int32) (x5 : Int32) (x6 : Int32) (x7 : Int32) (y0 : Int32) (hz : mv_H) : Option (Option Int32 × mv_H) := if y0 = (0 : Int32) then (f_Book_statement_286 P kS x3 x4 x6 x7 hz) else (bif xvi x7 4100 then bif xvi x6 33000 then if (mv_a hz (P + 3) (x7).toNatClampNeg) = (mv_a hz (P + 23) (x6).toNatClampNeg) then (f_Book_statement_286 P kS x3 x4 x6 x7 hz) else (xhv (f_Book_fault P hz (4 : Int32) x5) fun g5 => f_Book_statement_286 P kS x3 x4 x6 x7 g5) else none else none)
def f_Book_statement_254 (P : Nat) (kS : Nat → mv_H → Option (Option Int32 × mv_H)) (x3 : Int32) (x4 : Int32) (x5 : Int32) (x6 : Int32) (x7 : Int32) (hz : mv_H) : Option (Option Int32 × mv_H) := f_Book_statement_255 P kS x3 x4 x5 x6 x7 (0 : Int32) hz
def f_Book_statement_213 (P : Nat) (kS : Nat → mv_H → Option (Option Int32 × mv_H)) (x1 : Int32) (hz : mv_H) : Option (Option Int32 × mv_H) := xhv (f_Book_fault P hz (2 : Int32) x1) fun g7 => xhb (f_Book_node P g7 (13 : Int32) (0 : Int32) (0 : Int32) (0 : Int32) (0 : Int32)) fun u10 g9 => some (some u10, g9)
def f_Book_statement_194 (P : Nat) (kS : Nat → mv_H → Option (Option Int32 × mv_H)) (x1 : Int32) (x3 : Int32) (x4 : Int32) (x5 : Int32) (x6 : Int32) (y0 : Int32) (hz : mv_H) : Option (Option Int32 × mv_H) := if y0 < (0 : Int32) then (f_Book_statement_213 P kS x1 hz) else (bif xvi y0 4100 then if (mv_a hz (P + 6) (y0).toNatClampNeg) = x4 then (bif xvi y0 4100 then if (mv_a hz (P + 3) (y0).toNatClampNeg) ≤ (0 : Int32) then (f_Book_statement_254 P kS x3 x4 x5 x6 y0 hz) else (bif xvi x6 33000 then if (mv_a hz (P + 23) (x6).toNatClampNeg) ≤ (0 : Int32) then (f_Book_statement_254 P kS x3 x4 x5 x6 y0 hz) else (f_Book_statement_255 P kS x3 x4 x5 x6 y0 (1 : Int32) hz) else none) else none) else (f_Book_statement_213 P kS x1 hz) else none)
def f_Book_statement_184 (P : Nat) (kS : Nat → mv_H → Option (Option Int32 × mv_H)) (x1 : Int32) (x3 : Int32) (x4 : Int32) (x5 : Int32) (x6 : Int32) (hz : mv_H) : Option (Option Int32 × mv_H) := f_Book_statement_194 P kS x1 x3 x4 x5 x6 (-1 : Int32) hz
def f_Book_statement_142 (P : Nat) (kS : Nat → mv_H → Option (Option Int32 × mv_H)) (x1 : Int32) (x2 : Int32) (x3 : Int32) (x4 : Int32) (hz : mv_H) : Option (Option Int32 × mv_H) := xtb (f_Book_need P hz (61 : Int32)) fun u15 g14 => xtb (f_BookR P 868 0 0 g14) fun u17 g16 => xtb (f_Book_need P g16 (59 : Int32)) fun u19 g18 => xhb (f_Book_let P g18 x1 x2) fun u21 g20 => if (0 : Int32) ≤ u21 then (f_Book_statement_184 P kS x1 x3 x4 (mv_i hz P 5) u17 g20) else (xhb (f_Book_isField P g20 x1 x2) fun u23 g22 => if u23 = (0 : Int32) then (xhb (f_Book_thing P g22 x1 x2) fun u25 g24 => f_Book_statement_194 P kS x1 x3 x4 (mv_i hz P 5) u17 u25 g24) else (f_Book_statement_184 P kS x1 x3 x4 (mv_i hz P 5) u17 g22))
def f_Book_statement_100 (P : Nat) (kS : Nat → mv_H → Option (Option Int32 × mv_H)) (x1 : Int32) (x2 : Int32) (x3 : Int32) (y0 : Int32) (hz : mv_H) : Option (Option Int32 × mv_H) := if y0 = (0 : Int32) then (f_Book_statement_142 P kS x1 x2 x3 y0 hz) else (xtb (f_Book_pass P hz) fun u27 g26 => xk (mv_si g26 P 8 ((mv_i g26 P 8) + (1 : Int32))) fun g28 => xtb (f_BookR P 868 0 0 g28) fun u30 g29 => xtb (f_Book_need P g29 (93 : Int32)) fun u32 g31 => xk (mv_si g31 P 8 ((mv_i g31 P 8) - (1 : Int32))) fun g33 => f_Book_statement_142 P kS x1 x2 u30 y0 g33)
def f_Book_statement (P : Nat) (kS : Nat → mv_H → Option (Option Int32 × mv_H)) (h : mv_H) : Option (Option Int32 × mv_H) := xhb (f_Book_is P h 147) fun u35 g34 => if u35 = (0 : Int32) then (xhb (f_Book_is P g34 154) fun u37 g36 => if u37 = (0 : Int32) then (xhb (f_Book_is P g36 155) fun u39 g38 => if u39 = (0 : Int32) then (xtb (f_Book_name P g38) fun u41 g40 => if (mv_i g40 P 4) = (91 : Int32) then (f_Book_statement_100 P kS (mv_i g40 P 49) (mv_i g40 P 50) (-1 : Int32) (1 : Int32) g40) else (f_Book_statement_100 P kS (mv_i g40 P 49) (mv_i g40 P 50) (-1 : Int32) (0 : Int32) g40)) else (xtb (kS 2 g38) fun u43 g42 => some (some u43, g42))) else (xtb (f_Book_pass P g36) fun u45 g44 => xtb (f_Book_ranged P g44 (1 : Int64) (1000000 : Int64)) fun u47 g46 => xtb (f_Book_need P g46 (59 : Int32)) fun u49 g48 => xhb (f_Book_node P g48 (17 : Int32) u47 (0 : Int32) (0 : Int32) (0 : Int32)) fun u51 g50 => some (some u51, g50))) else (xtb (f_Book_letStatement P g34) fun u53 g52 => some (some u53, g52))
def f_Book_ifStatement_81 (P : Nat) (kS : Nat → mv_H → Option (Option Int32 × mv_H)) (k4 : Int32 → Int32 → mv_H → Option (Option Int32 × mv_H)) (x1 : Int32) (x6 : Int32) (hz : mv_H) : Option (Option Int32 × mv_H) := xhb (f_Book_is P hz 156) fun u2 g1 => if u2 = (0 : Int32) then (some (some x1, g1)) else (xtb (f_Book_pass P g1) fun u4 g3 => xhb (f_Book_is P g3 155) fun u6 g5 => if u6 = (0 : Int32) then (xtb (kS 0 g5) fun u8 g7 => bif xvi x6 33000 then xk (mv_sa g7 (P + 21) (x6).toNatClampNeg u8) fun g10 => some (some x1, g10) else none) else (k4 x1 x6 g5))
def f_Book_ifStatement_36 (P : Nat) (kS : Nat → mv_H → Option (Option Int32 × mv_H)) (k4 : Int32 → Int32 → mv_H → Option (Option Int32 × mv_H)) (x1 : Int32) (x2 : Int32) (x4 : Int32) (hz : mv_H) : Option (Option Int32 × mv_H) := xtb (kS 0 hz) fun u12 g11 => xhb (f_Book_node P g11 (18 : Int32) x4 u12 (-1 : Int32) (0 : Int32)) fun u14 g13 => if (0 : Int32) ≤ x2 then (bif xvi x2 33000 then xk (mv_sa g13 (P + 21) (x2).toNatClampNeg u14) fun g16 => bif xvi x2 33000 then xk (mv_sa g16 (P + 25) (x2).toNatClampNeg (vp_nar .boolean (1 : Int32))) fun g18 => f_Book_ifStatement_81 P kS k4 x1 u14 g18 else none else none) else (f_Book_ifStatement_81 P kS k4 u14 u14 g13)
def fF_Book_ifStatement_4 (P : Nat) (kS : Nat → mv_H → Option (Option Int32 × mv_H)) (k4 : Int32 → Int32 → mv_H → Option (Option Int32 × mv_H)) (x1 : Int32) (x2 : Int32) (hz : mv_H) : Option (Option Int32 × mv_H) := xtb (f_Book_pass P hz) fun u20 g19 => xtb (f_BookR P 868 0 0 g19) fun u22 g21 => bif xvi u22 33000 then if (mv_a g21 (P + 23) (u22).toNatClampNeg) ≤ (1 : Int32) then (f_Book_ifStatement_36 P kS k4 x1 x2 u22 g21) else (xhv (f_Book_fault P g21 (4 : Int32) (mv_i hz P 5)) fun g24 => f_Book_ifStatement_36 P kS k4 x1 x2 u22 g24) else none
def f_Book_ifStatement_4 (P : Nat) (kS : Nat → mv_H → Option (Option Int32 × mv_H)) : Nat → Int32 → Int32 → mv_H → Option (Option Int32 × mv_H)
  | 0 => fun _ _ _ => none
  | nn + 1 => fF_Book_ifStatement_4 P kS (f_Book_ifStatement_4 P kS nn)
def f_Book_ifStatement (P : Nat) (kS : Nat → mv_H → Option (Option Int32 × mv_H)) (h : mv_H) : Option (Option Int32 × mv_H) := f_Book_ifStatement_4 P kS 200000 (-1 : Int32) (-1 : Int32) h
def f_BookS (P : Nat) : Nat → Nat → mv_H → Option (Option Int32 × mv_H)
  | 0 => fun _ _ => none
  | nn + 1 => fun m h => match m with
    | 0 => f_Book_block P (f_BookS P nn) h
    | 1 => f_Book_statement P (f_BookS P nn) h
    | _ => f_Book_ifStatement P (f_BookS P nn) h
def RecS (l : Launch) (dA : FieldType → ClassId) (D : va_G) (al : Nat → Nat) (ext : mv_Sh) (sk sv : Nat → Nat) (B nn : Nat) : Prop := (∀ (h : mv_H) (rv : Option Int32) (rg : mv_H), Br B (mv_r h) → f_BookS B nn 0 h = some (rv, rg) → mv_C l y_Book_block (Cond.code y_Book_block b_Book_block 5 (Option.some Jvm.ClassFile.FieldType.int) :: ma) ({ frames := nn + 881, cells := 0, slots := 0, locals := 60 * nn + 53080 }) (mg dA D al ext) (mK sk sv) [.ref (al B)] h (mv_Ui (fun v σ1 => rv = some v ∧ rg = σ1 ∧ mv_r σ1 = mv_r h) ("MachineLoomModel$Book$Wrong", al (B + 33)) (fun σ1 => rv = none ∧ rg = σ1 ∧ mv_r σ1 = mv_r h))) ∧ (∀ (h : mv_H) (rv : Option Int32) (rg : mv_H), Br B (mv_r h) → f_BookS B nn 1 h = some (rv, rg) → mv_C l y_Book_statement (Cond.code y_Book_statement b_Book_statement 9 (Option.some Jvm.ClassFile.FieldType.int) :: ma) ({ frames := nn + 881, cells := 0, slots := 0, locals := 60 * nn + 53080 }) (mg dA D al ext) (mK sk sv) [.ref (al B)] h (mv_Ui (fun v σ1 => rv = some v ∧ rg = σ1 ∧ mv_r σ1 = mv_r h) ("MachineLoomModel$Book$Wrong", al (B + 33)) (fun σ1 => rv = none ∧ rg = σ1 ∧ mv_r σ1 = mv_r h))) ∧ (∀ (h : mv_H) (rv : Option Int32) (rg : mv_H), Br B (mv_r h) → f_BookS B nn 2 h = some (rv, rg) → mv_C l y_Book_ifStatement (Cond.code y_Book_ifStatement b_Book_ifStatement 7 (Option.some Jvm.ClassFile.FieldType.int) :: ma) ({ frames := nn + 881, cells := 0, slots := 0, locals := 60 * nn + 53080 }) (mg dA D al ext) (mK sk sv) [.ref (al B)] h (mv_Ui (fun v σ1 => rv = some v ∧ rg = σ1 ∧ mv_r σ1 = mv_r h) ("MachineLoomModel$Book$Wrong", al (B + 33)) (fun σ1 => rv = none ∧ rg = σ1 ∧ mv_r σ1 = mv_r h)))
set_option maxHeartbeats 4000000 in
set_option maxRecDepth 100000 in
theorem cr_Book_block_x (l : Launch) {dA : FieldType → ClassId} {D : va_G} {al : Nat → Nat} {ext : mv_Sh} {sk sv : Nat → Nat} (hi : mv_inj (mg dA D al ext)) (nn : Nat) (ih : RecS l dA D al ext sk sv 74 nn) (h : mv_H) (hb : Br 74 (mv_r h))  {rv : Option Int32} {rg : mv_H} (hf : f_Book_block 74 (f_BookS 74 nn) h = some (rv, rg)) : mv_C l y_Book_block (Cond.code y_Book_block b_Book_block 5 (Option.some Jvm.ClassFile.FieldType.int) :: ma) ({ frames := nn + 1 + 881, cells := 0, slots := 0, locals := 60 * (nn + 1) + 53080 }) (mg dA D al ext) (mK sk sv) [.ref (al 74)] h (mv_Ui (fun v σ1 => rv = some v ∧ rg = σ1 ∧ mv_r σ1 = mv_r h) ("MachineLoomModel$Book$Wrong", al 107) (fun σ1 => rv = none ∧ rg = σ1 ∧ mv_r σ1 = mv_r h)) := by
  refine mv_C.ofV (cc := b_Book_block) (nL := 5) (ret := (Option.some Jvm.ClassFile.FieldType.int)) (by decide +kernel) rfl hi (Nat.le_of_ble_eq_true rfl) ?_
  intro p e s m below meth c B hNs hr hnm hno
  have lp25 : ∀ (nn25 : Nat) (x1 : Int32) (x2 : Int32) (x3 : Int32) (hz : mv_H), mv_r hz = mv_r h → f_Book_block_25 74 (f_BookS 74 nn) nn25 x1 x2 x3 hz = some (rv, rg) → mv_V p l e ({ frames := nn + 1 + 881, cells := 0, slots := 0, locals := 60 * (nn + 1) + 53080 }) s m ([.ref (al 74)] : List Value).toArray below meth c (mg dA D al ext) 5 0 0 (mv_Q (mg dA D al ext) below s 0 0 (mv_Ui (fun v σ1 => rv = some v ∧ rg = σ1 ∧ mv_r σ1 = mv_r h) ("MachineLoomModel$Book$Wrong", al 107) (fun σ1 => rv = none ∧ rg = σ1 ∧ mv_r σ1 = mv_r h))) hz 25 [(0, .ref (al 74)), (1, .int x1), (2, .int x2), (3, .int x3)] [] := by
    intro nn25
    induction nn25 with
    | zero => intro x1 x2 x3 hz r_hz hf; cases hf
    | succ nn25 ih25 =>
      intro x1 x2 x3 hz r_hz hf
      have jn58 : ∀ (x1 : Int32) (x2 : Int32) (x4 : Int32) (hz : mv_H), mv_r hz = mv_r h → f_Book_block_58 74 (f_BookS 74 nn) (f_Book_block_25 74 (f_BookS 74 nn) nn25) x1 x2 x4 hz = some (rv, rg) → mv_V p l e ({ frames := nn + 1 + 881, cells := 0, slots := 0, locals := 60 * (nn + 1) + 53080 }) s m ([.ref (al 74)] : List Value).toArray below meth c (mg dA D al ext) 5 0 0 (mv_Q (mg dA D al ext) below s 0 0 (mv_Ui (fun v σ1 => rv = some v ∧ rg = σ1 ∧ mv_r σ1 = mv_r h) ("MachineLoomModel$Book$Wrong", al 107) (fun σ1 => rv = none ∧ rg = σ1 ∧ mv_r σ1 = mv_r h))) hz 58 [(0, .ref (al 74)), (1, .int x1), (2, .int x2), (4, .int x4)] [] := by
        intro x1 x2 x4 hz r_hz hf
        unfold f_Book_block_58 at hf
        refine mv_iload (pc := 58) B d_Book_block_58 3 rfl ?_
        refine mv_istore_n (pc := 60) B d_Book_block_60 rfl (by decide) rfl ?_
        refine mv_goto (pc := 61) (tgt := 25) B d_Book_block_61 rfl ?_
        refine mv_lpick [1, 2, 3, 0] rfl ?_
        exact ih25 _ _ _ _ r_hz hf
      have hf : fF_Book_block_25 74 (f_BookS 74 nn) (f_Book_block_25 74 (f_BookS 74 nn) nn25) x1 x2 x3 hz = some (rv, rg) := hf
      unfold fF_Book_block_25 at hf
      refine mv_aload_n (pc := 25) B d_Book_block_25 rfl 0 rfl ?_
      refine mv_getI (pc := 26) (ci := 12) (C := R_Book) (T := F_Book) (N := 65) B 4 rfl rfl (by decide) i_Book (B.2.2.2.1 _ k_1847) rfl d_Book_block_26 ?_
      refine mv_bipush (pc := 29) (v := 125) B d_Book_block_29 (by decide) ?_
      refine mv_icmp_eq (pc := 31) (tgt := 64) B d_Book_block_31 rfl (fun h31 => ?_) (fun h31 => ?_)
      · skip
        have hf := xif_t h31 hf
        refine mv_aload_n (pc := 64) B d_Book_block_64 rfl 0 rfl ?_
        refine mv_bipush (pc := 65) (v := 125) B d_Book_block_65 (by decide) ?_
        obtain ⟨og1, g1, eg1, hf⟩ := xtb_e hf
        refine mv_callVUv (pc := 67) (n := 1) (ci := 12) (C := R_Book) B (mK_ok sk sv) hNs rfl rfl (ch_Book_need_x l hi _ (xrw r_hz hb) _ eg1) rfl (ma_goodc kc_Book_need) (B.2.2.2.1 _ k_2177) (B.2.2.2.1 _ k_2179) (B.2.2.2.1 _ ks_91) (B.2.2.2.1 _ k_13) ⟨by decide +kernel, by decide +kernel, by decide +kernel⟩ rfl d_Book_block_67 rfl (Nat.le_of_ble_eq_true rfl) ⟨by first | decide | (dsimp only; omega), by first | decide | (dsimp only; omega)⟩ ⟨Nat.le_refl _, Nat.le_refl _⟩ ⟨Nat.le_refl _, Nat.le_refl _⟩ (mv_noH hno _) (fun τ9 g9 => Or.inr ⟨rfl, xth hf g9 r_hz⟩) (fun σ67 h67 => ?_)
        obtain ⟨rfl, rfl, s_g1⟩ := h67
        have hf := xt2_s hf
        have r_g1 : mv_r g1 = mv_r h := s_g1.trans r_hz
        refine mv_aload_n (pc := 70) B d_Book_block_70 rfl 0 rfl ?_
        refine mv_dup (pc := 71) B d_Book_block_71 rfl ?_
        refine mv_getI (pc := 72) (ci := 12) (C := R_Book) (T := F_Book) (N := 65) B 8 rfl rfl (by decide) i_Book (B.2.2.2.1 _ k_1851) rfl d_Book_block_72 ?_
        refine mv_iconst (pc := 75) (v := 1) B d_Book_block_75 (by decide) ?_
        refine mv_isub (pc := 76) B d_Book_block_76 ?_
        refine mv_putI (pc := 77) (ci := 12) (C := R_Book) (T := F_Book) (N := 65) B 8 rfl rfl (by decide) i_Book t_Book_ok n_Book (B.2.2.2.1 _ k_1851) rfl rfl rfl rfl d_Book_block_77 ?_
        refine mvh_hp (R9 := mv_r h) hf r_g1 (fun g3 hf r_g3 => ?_)
        refine mv_aload_n (pc := 80) B d_Book_block_80 rfl 0 rfl ?_
        refine mv_iload_n (pc := 81) B d_Book_block_81 rfl 1 rfl ?_
        refine mv_putI (pc := 82) (ci := 12) (C := R_Book) (T := F_Book) (N := 65) B 35 rfl rfl (by decide) i_Book t_Book_ok n_Book (B.2.2.2.1 _ k_1881) rfl rfl rfl rfl d_Book_block_82 ?_
        refine mvh_hp (R9 := mv_r h) hf r_g3 (fun g4 hf r_g4 => ?_)
        refine mv_iload_n (pc := 85) B d_Book_block_85 rfl 2 rfl ?_
        exact mv_iret (pc := 86) B hr rfl d_Book_block_86 (Nat.le_refl _) (Nat.le_refl _) (Or.inl ⟨_, rfl, xrt_i hf r_g4⟩)
      · skip
        have hf := xif_f h31 hf
        refine mv_aload_n (pc := 34) B d_Book_block_34 rfl 0 rfl ?_
        obtain ⟨og5, g5, eg5, hf⟩ := xtb_e hf
        refine mv_callVUi (pc := 35) (n := 0) (ci := 12) (C := R_Book) B (mK_ok sk sv) hNs rfl rfl (ih.2.1 _ _ _ (xrw r_hz hb) eg5) rfl (ma_goodc kc_Book_statement) (B.2.2.2.1 _ k_2236) (B.2.2.2.1 _ k_2238) (B.2.2.2.1 _ ks_102) (B.2.2.2.1 _ k_13) ⟨by decide +kernel, by decide +kernel, by decide +kernel⟩ rfl d_Book_block_35 rfl (Nat.le_of_ble_eq_true rfl) ⟨by first | decide | (dsimp only; omega), by first | decide | (dsimp only; omega)⟩ ⟨Nat.le_refl _, Nat.le_refl _⟩ ⟨Nat.le_refl _, Nat.le_refl _⟩ (mv_noH hno _) (fun τ9 g9 => Or.inr ⟨rfl, xth hf g9 r_hz⟩) (fun u6 σ35 h35 => ?_)
        obtain ⟨rfl, rfl, s_g5⟩ := h35
        have hf := xt2_s hf
        have r_g5 : mv_r g5 = mv_r h := s_g5.trans r_hz
        refine mv_istore (pc := 38) B d_Book_block_38 (by decide) rfl ?_
        refine mv_iload_n (pc := 40) B d_Book_block_40 rfl 4 rfl ?_
        refine mv_if_ge (pc := 41) (tgt := 50) B d_Book_block_41 rfl (fun h41 => ?_) (fun h41 => ?_)
        · skip
          have hf := xif_t h41 hf
          refine mv_aload_n (pc := 50) B d_Book_block_50 rfl 1 rfl ?_
          refine mv_getR (pc := 51) (ci := 12) (C := R_Book) (T := F_Book) (N := 65) B 44 rfl rfl (by decide) i_Book (B.2.2.2.1 _ k_1893) rfl ((congrFun (congrFun r_g5 74) 44).trans (hb.1 74 44 _ rfl)) d_Book_block_51 ?_
          refine mv_iload_n (pc := 54) B d_Book_block_54 rfl 4 rfl ?_
          refine mv_iload (pc := 55) B d_Book_block_55 0 rfl ?_
          obtain ⟨q7, hf⟩ := xvi_e hf
          refine mv_iast (pc := 57) B rfl q7 d_Book_block_57 ?_
          refine mvh_hp (R9 := mv_r h) hf r_g5 (fun g8 hf r_g8 => ?_)
          refine mv_lpick [1, 2, 3, 0] rfl ?_
          exact jn58 _ _ _ _ r_g8 hf
        · skip
          have hf := xif_f h41 hf
          refine mv_iload (pc := 44) B d_Book_block_44 0 rfl ?_
          refine mv_istore_n (pc := 46) B d_Book_block_46 rfl (by decide) rfl ?_
          refine mv_goto (pc := 47) (tgt := 58) B d_Book_block_47 rfl ?_
          refine mv_lpick [2, 3, 0, 1] rfl ?_
          exact jn58 _ _ _ _ r_g5 hf
  unfold f_Book_block at hf
  refine mv_aload_n (pc := 0) B d_Book_block_0 rfl 0 rfl ?_
  refine mv_bipush (pc := 1) (v := 123) B d_Book_block_1 (by decide) ?_
  obtain ⟨og9, g9, eg9, hf⟩ := xtb_e hf
  refine mv_callVUv (pc := 3) (n := 1) (ci := 12) (C := R_Book) B (mK_ok sk sv) hNs rfl rfl (ch_Book_need_x l hi _ (hb) _ eg9) rfl (ma_goodc kc_Book_need) (B.2.2.2.1 _ k_2177) (B.2.2.2.1 _ k_2179) (B.2.2.2.1 _ ks_91) (B.2.2.2.1 _ k_13) ⟨by decide +kernel, by decide +kernel, by decide +kernel⟩ rfl d_Book_block_3 rfl (Nat.le_of_ble_eq_true rfl) ⟨by first | decide | (dsimp only; omega), by first | decide | (dsimp only; omega)⟩ ⟨Nat.le_refl _, Nat.le_refl _⟩ ⟨Nat.le_refl _, Nat.le_refl _⟩ (mv_noH hno _) (fun τ9 g9 => Or.inr ⟨rfl, xth hf g9 rfl⟩) (fun σ3 h3 => ?_)
  obtain ⟨rfl, rfl, s_g9⟩ := h3
  have hf := xt2_s hf
  have r_g9 : mv_r g9 = mv_r h := s_g9.trans rfl
  refine mv_aload_n (pc := 6) B d_Book_block_6 rfl 0 rfl ?_
  refine mv_dup (pc := 7) B d_Book_block_7 rfl ?_
  refine mv_getI (pc := 8) (ci := 12) (C := R_Book) (T := F_Book) (N := 65) B 8 rfl rfl (by decide) i_Book (B.2.2.2.1 _ k_1851) rfl d_Book_block_8 ?_
  refine mv_iconst (pc := 11) (v := 1) B d_Book_block_11 (by decide) ?_
  refine mv_iadd (pc := 12) B d_Book_block_12 ?_
  refine mv_putI (pc := 13) (ci := 12) (C := R_Book) (T := F_Book) (N := 65) B 8 rfl rfl (by decide) i_Book t_Book_ok n_Book (B.2.2.2.1 _ k_1851) rfl rfl rfl rfl d_Book_block_13 ?_
  refine mvh_hp (R9 := mv_r h) hf r_g9 (fun g11 hf r_g11 => ?_)
  refine mv_aload_n (pc := 16) B d_Book_block_16 rfl 0 rfl ?_
  refine mv_getI (pc := 17) (ci := 12) (C := R_Book) (T := F_Book) (N := 65) B 35 rfl rfl (by decide) i_Book (B.2.2.2.1 _ k_1881) rfl d_Book_block_17 ?_
  refine mv_istore_n (pc := 20) B d_Book_block_20 rfl (by decide) rfl ?_
  refine mv_iconst (pc := 21) (v := -1) B d_Book_block_21 (by decide) ?_
  refine mv_istore_n (pc := 22) B d_Book_block_22 rfl (by decide) rfl ?_
  refine mv_iconst (pc := 23) (v := -1) B d_Book_block_23 (by decide) ?_
  refine mv_istore_n (pc := 24) B d_Book_block_24 rfl (by decide) rfl ?_
  refine mv_lpick [3, 2, 1, 0] rfl ?_
  exact lp25 _ _ _ _ _ r_g11 hf
set_option maxHeartbeats 4000000 in
set_option maxRecDepth 100000 in
theorem cr_Book_statement_x (l : Launch) {dA : FieldType → ClassId} {D : va_G} {al : Nat → Nat} {ext : mv_Sh} {sk sv : Nat → Nat} (hi : mv_inj (mg dA D al ext)) (nn : Nat) (ih : RecS l dA D al ext sk sv 74 nn) (h : mv_H) (hb : Br 74 (mv_r h))  {rv : Option Int32} {rg : mv_H} (hf : f_Book_statement 74 (f_BookS 74 nn) h = some (rv, rg)) : mv_C l y_Book_statement (Cond.code y_Book_statement b_Book_statement 9 (Option.some Jvm.ClassFile.FieldType.int) :: ma) ({ frames := nn + 1 + 881, cells := 0, slots := 0, locals := 60 * (nn + 1) + 53080 }) (mg dA D al ext) (mK sk sv) [.ref (al 74)] h (mv_Ui (fun v σ1 => rv = some v ∧ rg = σ1 ∧ mv_r σ1 = mv_r h) ("MachineLoomModel$Book$Wrong", al 107) (fun σ1 => rv = none ∧ rg = σ1 ∧ mv_r σ1 = mv_r h)) := by
  refine mv_C.ofV (cc := b_Book_statement) (nL := 9) (ret := (Option.some Jvm.ClassFile.FieldType.int)) (by decide +kernel) rfl hi (Nat.le_of_ble_eq_true rfl) ?_
  intro p e s m below meth c B hNs hr hnm hno
  have jn299 : ∀ (x3 : Int32) (x6 : Int32) (x7 : Int32) (y0 : Int32) (hz : mv_H), mv_r hz = mv_r h → f_Book_statement_299 74 (f_BookS 74 nn) x3 x6 x7 y0 hz = some (rv, rg) → mv_V p l e ({ frames := nn + 1 + 881, cells := 0, slots := 0, locals := 60 * (nn + 1) + 53080 }) s m ([.ref (al 74)] : List Value).toArray below meth c (mg dA D al ext) 9 0 0 (mv_Q (mg dA D al ext) below s 0 0 (mv_Ui (fun v σ1 => rv = some v ∧ rg = σ1 ∧ mv_r σ1 = mv_r h) ("MachineLoomModel$Book$Wrong", al 107) (fun σ1 => rv = none ∧ rg = σ1 ∧ mv_r σ1 = mv_r h))) hz 299 [(3, .int x3), (6, .int x6), (7, .int x7)] [.int y0, .ref (al 74)] := by
    intro x3 x6 x7 y0 hz r_hz hf
    unfold f_Book_statement_299 at hf
    refine mv_iload (pc := 299) B d_Book_statement_299 2 rfl ?_
    refine mv_iload (pc := 301) B d_Book_statement_301 1 rfl ?_
    refine mv_iload_n (pc := 303) B d_Book_statement_303 rfl 0 rfl ?_
    refine mv_iconst (pc := 304) (v := 0) B d_Book_statement_304 (by decide) ?_
    obtain ⟨u2, g1, eg1, hf⟩ := xhb_e hf
    refine mv_callVi (pc := 305) (n := 5) (ci := 12) (C := R_Book) B (mK_ok sk sv) hNs rfl rfl (ch_Book_node_x l hi _ (xrw r_hz hb) _ _ _ _ _ eg1) rfl (ma_goodc kc_Book_node) (B.2.2.2.1 _ k_2269) (B.2.2.2.1 _ k_2271) (B.2.2.2.1 _ ks_110) (B.2.2.2.1 _ k_13) ⟨by decide +kernel, by decide +kernel, by decide +kernel⟩ rfl d_Book_statement_305 rfl (Nat.le_of_ble_eq_true rfl) ⟨by first | decide | (dsimp only; omega), by first | decide | (dsimp only; omega)⟩ ⟨Nat.le_refl _, Nat.le_refl _⟩ ⟨Nat.le_refl _, Nat.le_refl _⟩ (mv_noH hno _) (fun w305 σ305 h305 => ?_)
    obtain ⟨rfl, rfl, s_g1⟩ := h305
    have r_g1 : mv_r g1 = mv_r h := s_g1.trans r_hz
    exact mv_iret (pc := 308) B hr rfl d_Book_statement_308 (Nat.le_refl _) (Nat.le_refl _) (Or.inl ⟨_, rfl, xrt_i hf r_g1⟩)
  have jn286 : ∀ (x3 : Int32) (x4 : Int32) (x6 : Int32) (x7 : Int32) (hz : mv_H), mv_r hz = mv_r h → f_Book_statement_286 74 (f_BookS 74 nn) x3 x4 x6 x7 hz = some (rv, rg) → mv_V p l e ({ frames := nn + 1 + 881, cells := 0, slots := 0, locals := 60 * (nn + 1) + 53080 }) s m ([.ref (al 74)] : List Value).toArray below meth c (mg dA D al ext) 9 0 0 (mv_Q (mg dA D al ext) below s 0 0 (mv_Ui (fun v σ1 => rv = some v ∧ rg = σ1 ∧ mv_r σ1 = mv_r h) ("MachineLoomModel$Book$Wrong", al 107) (fun σ1 => rv = none ∧ rg = σ1 ∧ mv_r σ1 = mv_r h))) hz 286 [(0, .ref (al 74)), (3, .int x3), (4, .int x4), (6, .int x6), (7, .int x7)] [] := by
    intro x3 x4 x6 x7 hz r_hz hf
    unfold f_Book_statement_286 at hf
    refine mv_aload_n (pc := 286) B d_Book_statement_286 rfl 0 rfl ?_
    refine mv_iload (pc := 287) B d_Book_statement_287 2 rfl ?_
    refine mv_if_eq (pc := 289) (tgt := 297) B d_Book_statement_289 rfl (fun h289 => ?_) (fun h289 => ?_)
    · skip
      have hf := xif_t h289 hf
      refine mv_bipush (pc := 297) (v := 15) B d_Book_statement_297 (by decide) ?_
      refine mv_lpick [1, 3, 4] rfl ?_
      exact jn299 _ _ _ _ _ r_hz hf
    · skip
      have hf := xif_f h289 hf
      refine mv_bipush (pc := 292) (v := 16) B d_Book_statement_292 (by decide) ?_
      refine mv_goto (pc := 294) (tgt := 299) B d_Book_statement_294 rfl ?_
      refine mv_lpick [1, 3, 4] rfl ?_
      exact jn299 _ _ _ _ _ r_hz hf
  have jn255 : ∀ (x3 : Int32) (x4 : Int32) (x5 : Int32) (x6 : Int32) (x7 : Int32) (y0 : Int32) (hz : mv_H), mv_r hz = mv_r h → f_Book_statement_255 74 (f_BookS 74 nn) x3 x4 x5 x6 x7 y0 hz = some (rv, rg) → mv_V p l e ({ frames := nn + 1 + 881, cells := 0, slots := 0, locals := 60 * (nn + 1) + 53080 }) s m ([.ref (al 74)] : List Value).toArray below meth c (mg dA D al ext) 9 0 0 (mv_Q (mg dA D al ext) below s 0 0 (mv_Ui (fun v σ1 => rv = some v ∧ rg = σ1 ∧ mv_r σ1 = mv_r h) ("MachineLoomModel$Book$Wrong", al 107) (fun σ1 => rv = none ∧ rg = σ1 ∧ mv_r σ1 = mv_r h))) hz 255 [(0, .ref (al 74)), (3, .int x3), (4, .int x4), (5, .int x5), (6, .int x6), (7, .int x7)] [.int y0] := by
    intro x3 x4 x5 x6 x7 y0 hz r_hz hf
    unfold f_Book_statement_255 at hf
    refine mv_istore (pc := 255) B d_Book_statement_255 (by decide) rfl ?_
    refine mv_iload (pc := 257) B d_Book_statement_257 0 rfl ?_
    refine mv_if_eq (pc := 259) (tgt := 286) B d_Book_statement_259 rfl (fun h259 => ?_) (fun h259 => ?_)
    · skip
      have hf := xif_t h259 hf
      refine mv_lpick [1, 2, 3, 5, 6] rfl ?_
      exact jn286 _ _ _ _ _ r_hz hf
    · skip
      have hf := xif_f h259 hf
      refine mv_aload_n (pc := 262) B d_Book_statement_262 rfl 1 rfl ?_
      refine mv_getR (pc := 263) (ci := 12) (C := R_Book) (T := F_Book) (N := 65) B 12 rfl rfl (by decide) i_Book (B.2.2.2.1 _ k_1855) rfl ((congrFun (congrFun r_hz 74) 12).trans (hb.1 74 12 _ rfl)) d_Book_statement_263 ?_
      refine mv_iload (pc := 266) B d_Book_statement_266 6 rfl ?_
      obtain ⟨q3, hf⟩ := xvi_e hf
      refine mv_iald (pc := 268) B rfl q3 d_Book_statement_268 ?_
      refine mv_aload_n (pc := 269) B d_Book_statement_269 rfl 1 rfl ?_
      refine mv_getR (pc := 270) (ci := 12) (C := R_Book) (T := F_Book) (N := 65) B 45 rfl rfl (by decide) i_Book (B.2.2.2.1 _ k_1894) rfl ((congrFun (congrFun r_hz 74) 45).trans (hb.1 74 45 _ rfl)) d_Book_statement_270 ?_
      refine mv_iload (pc := 273) B d_Book_statement_273 5 rfl ?_
      obtain ⟨q4, hf⟩ := xvi_e hf
      refine mv_iald (pc := 275) B rfl q4 d_Book_statement_275 ?_
      refine mv_icmp_eq (pc := 276) (tgt := 286) B d_Book_statement_276 rfl (fun h276 => ?_) (fun h276 => ?_)
      · skip
        have hf := xif_t h276 hf
        refine mv_lpick [1, 2, 3, 5, 6] rfl ?_
        exact jn286 _ _ _ _ _ r_hz hf
      · skip
        have hf := xif_f h276 hf
        refine mv_aload_n (pc := 279) B d_Book_statement_279 rfl 1 rfl ?_
        refine mv_iconst (pc := 280) (v := 4) B d_Book_statement_280 (by decide) ?_
        refine mv_iload (pc := 281) B d_Book_statement_281 4 rfl ?_
        obtain ⟨g5, eg5, hf⟩ := xhv_e hf
        refine mv_callVv (pc := 283) (n := 2) (ci := 12) (C := R_Book) B (mK_ok sk sv) hNs rfl rfl (ch_Book_fault_x l hi _ _ _ eg5) rfl (ma_goodc kc_Book_fault) (B.2.2.2.1 _ k_2185) (B.2.2.2.1 _ k_2187) (B.2.2.2.1 _ ks_92) (B.2.2.2.1 _ k_13) ⟨by decide +kernel, by decide +kernel, by decide +kernel⟩ rfl d_Book_statement_283 rfl (Nat.le_of_ble_eq_true rfl) ⟨by first | decide | (dsimp only; omega), by first | decide | (dsimp only; omega)⟩ ⟨Nat.le_refl _, Nat.le_refl _⟩ ⟨Nat.le_refl _, Nat.le_refl _⟩ (mv_noH hno _) (fun σ283 h283 => ?_)
        obtain ⟨rfl, s_g5⟩ := h283
        have r_g5 : mv_r g5 = mv_r h := s_g5.trans r_hz
        refine mv_lpick [1, 2, 3, 5, 6] rfl ?_
        exact jn286 _ _ _ _ _ r_g5 hf
  have jn254 : ∀ (x3 : Int32) (x4 : Int32) (x5 : Int32) (x6 : Int32) (x7 : Int32) (hz : mv_H), mv_r hz = mv_r h → f_Book_statement_254 74 (f_BookS 74 nn) x3 x4 x5 x6 x7 hz = some (rv, rg) → mv_V p l e ({ frames := nn + 1 + 881, cells := 0, slots := 0, locals := 60 * (nn + 1) + 53080 }) s m ([.ref (al 74)] : List Value).toArray below meth c (mg dA D al ext) 9 0 0 (mv_Q (mg dA D al ext) below s 0 0 (mv_Ui (fun v σ1 => rv = some v ∧ rg = σ1 ∧ mv_r σ1 = mv_r h) ("MachineLoomModel$Book$Wrong", al 107) (fun σ1 => rv = none ∧ rg = σ1 ∧ mv_r σ1 = mv_r h))) hz 254 [(0, .ref (al 74)), (3, .int x3), (4, .int x4), (5, .int x5), (6, .int x6), (7, .int x7)] [] := by
    intro x3 x4 x5 x6 x7 hz r_hz hf
    unfold f_Book_statement_254 at hf
    refine mv_iconst (pc := 254) (v := 0) B d_Book_statement_254 (by decide) ?_
    refine mv_lpick [0, 1, 2, 3, 4, 5] rfl ?_
    exact jn255 _ _ _ _ _ _ _ r_hz hf
  have jn213 : ∀ (x1 : Int32) (hz : mv_H), mv_r hz = mv_r h → f_Book_statement_213 74 (f_BookS 74 nn) x1 hz = some (rv, rg) → mv_V p l e ({ frames := nn + 1 + 881, cells := 0, slots := 0, locals := 60 * (nn + 1) + 53080 }) s m ([.ref (al 74)] : List Value).toArray below meth c (mg dA D al ext) 9 0 0 (mv_Q (mg dA D al ext) below s 0 0 (mv_Ui (fun v σ1 => rv = some v ∧ rg = σ1 ∧ mv_r σ1 = mv_r h) ("MachineLoomModel$Book$Wrong", al 107) (fun σ1 => rv = none ∧ rg = σ1 ∧ mv_r σ1 = mv_r h))) hz 213 [(0, .ref (al 74)), (1, .int x1)] [] := by
    intro x1 hz r_hz hf
    unfold f_Book_statement_213 at hf
    refine mv_aload_n (pc := 213) B d_Book_statement_213 rfl 0 rfl ?_
    refine mv_iconst (pc := 214) (v := 2) B d_Book_statement_214 (by decide) ?_
    refine mv_iload_n (pc := 215) B d_Book_statement_215 rfl 1 rfl ?_
    obtain ⟨g7, eg7, hf⟩ := xhv_e hf
    refine mv_callVv (pc := 216) (n := 2) (ci := 12) (C := R_Book) B (mK_ok sk sv) hNs rfl rfl (ch_Book_fault_x l hi _ _ _ eg7) rfl (ma_goodc kc_Book_fault) (B.2.2.2.1 _ k_2185) (B.2.2.2.1 _ k_2187) (B.2.2.2.1 _ ks_92) (B.2.2.2.1 _ k_13) ⟨by decide +kernel, by decide +kernel, by decide +kernel⟩ rfl d_Book_statement_216 rfl (Nat.le_of_ble_eq_true rfl) ⟨by first | decide | (dsimp only; omega), by first | decide | (dsimp only; omega)⟩ ⟨Nat.le_refl _, Nat.le_refl _⟩ ⟨Nat.le_refl _, Nat.le_refl _⟩ (mv_noH hno _) (fun σ216 h216 => ?_)
    obtain ⟨rfl, s_g7⟩ := h216
    have r_g7 : mv_r g7 = mv_r h := s_g7.trans r_hz
    refine mv_aload_n (pc := 219) B d_Book_statement_219 rfl 0 rfl ?_
    refine mv_bipush (pc := 220) (v := 13) B d_Book_statement_220 (by decide) ?_
    refine mv_iconst (pc := 222) (v := 0) B d_Book_statement_222 (by decide) ?_
    refine mv_iconst (pc := 223) (v := 0) B d_Book_statement_223 (by decide) ?_
    refine mv_iconst (pc := 224) (v := 0) B d_Book_statement_224 (by decide) ?_
    refine mv_iconst (pc := 225) (v := 0) B d_Book_statement_225 (by decide) ?_
    obtain ⟨u10, g9, eg9, hf⟩ := xhb_e hf
    refine mv_callVi (pc := 226) (n := 5) (ci := 12) (C := R_Book) B (mK_ok sk sv) hNs rfl rfl (ch_Book_node_x l hi _ (xrw r_g7 hb) _ _ _ _ _ eg9) rfl (ma_goodc kc_Book_node) (B.2.2.2.1 _ k_2269) (B.2.2.2.1 _ k_2271) (B.2.2.2.1 _ ks_110) (B.2.2.2.1 _ k_13) ⟨by decide +kernel, by decide +kernel, by decide +kernel⟩ rfl d_Book_statement_226 rfl (Nat.le_of_ble_eq_true rfl) ⟨by first | decide | (dsimp only; omega), by first | decide | (dsimp only; omega)⟩ ⟨Nat.le_refl _, Nat.le_refl _⟩ ⟨Nat.le_refl _, Nat.le_refl _⟩ (mv_noH hno _) (fun w226 σ226 h226 => ?_)
    obtain ⟨rfl, rfl, s_g9⟩ := h226
    have r_g9 : mv_r g9 = mv_r h := s_g9.trans r_g7
    exact mv_iret (pc := 229) B hr rfl d_Book_statement_229 (Nat.le_refl _) (Nat.le_refl _) (Or.inl ⟨_, rfl, xrt_i hf r_g9⟩)
  have jn194 : ∀ (x1 : Int32) (x3 : Int32) (x4 : Int32) (x5 : Int32) (x6 : Int32) (y0 : Int32) (hz : mv_H), mv_r hz = mv_r h → f_Book_statement_194 74 (f_BookS 74 nn) x1 x3 x4 x5 x6 y0 hz = some (rv, rg) → mv_V p l e ({ frames := nn + 1 + 881, cells := 0, slots := 0, locals := 60 * (nn + 1) + 53080 }) s m ([.ref (al 74)] : List Value).toArray below meth c (mg dA D al ext) 9 0 0 (mv_Q (mg dA D al ext) below s 0 0 (mv_Ui (fun v σ1 => rv = some v ∧ rg = σ1 ∧ mv_r σ1 = mv_r h) ("MachineLoomModel$Book$Wrong", al 107) (fun σ1 => rv = none ∧ rg = σ1 ∧ mv_r σ1 = mv_r h))) hz 194 [(0, .ref (al 74)), (1, .int x1), (3, .int x3), (4, .int x4), (5, .int x5), (6, .int x6)] [.int y0] := by
    intro x1 x3 x4 x5 x6 y0 hz r_hz hf
    unfold f_Book_statement_194 at hf
    refine mv_istore (pc := 194) B d_Book_statement_194 (by decide) rfl ?_
    refine mv_iload (pc := 196) B d_Book_statement_196 0 rfl ?_
    refine mv_if_lt (pc := 198) (tgt := 213) B d_Book_statement_198 rfl (fun h198 => ?_) (fun h198 => ?_)
    · skip
      have hf := xif_t h198 hf
      refine mv_lpick [1, 2] rfl ?_
      exact jn213 _ _ r_hz hf
    · skip
      have hf := xif_f h198 hf
      refine mv_aload_n (pc := 201) B d_Book_statement_201 rfl 1 rfl ?_
      refine mv_getR (pc := 202) (ci := 12) (C := R_Book) (T := F_Book) (N := 65) B 15 rfl rfl (by decide) i_Book (B.2.2.2.1 _ k_1858) rfl ((congrFun (congrFun r_hz 74) 15).trans (hb.1 74 15 _ rfl)) d_Book_statement_202 ?_
      refine mv_iload (pc := 205) B d_Book_statement_205 0 rfl ?_
      obtain ⟨q11, hf⟩ := xvi_e hf
      refine mv_zald (pc := 207) B rfl q11 d_Book_statement_207 ?_
      refine mv_iload (pc := 208) B d_Book_statement_208 4 rfl ?_
      refine mv_icmp_eq (pc := 210) (tgt := 230) B d_Book_statement_210 rfl (fun h210 => ?_) (fun h210 => ?_)
      · skip
        have hf := xif_t h210 hf
        refine mv_aload_n (pc := 230) B d_Book_statement_230 rfl 1 rfl ?_
        refine mv_getR (pc := 231) (ci := 12) (C := R_Book) (T := F_Book) (N := 65) B 12 rfl rfl (by decide) i_Book (B.2.2.2.1 _ k_1855) rfl ((congrFun (congrFun r_hz 74) 12).trans (hb.1 74 12 _ rfl)) d_Book_statement_231 ?_
        refine mv_iload (pc := 234) B d_Book_statement_234 0 rfl ?_
        obtain ⟨q12, hf⟩ := xvi_e hf
        refine mv_iald (pc := 236) B rfl q12 d_Book_statement_236 ?_
        refine mv_if_le (pc := 237) (tgt := 254) B d_Book_statement_237 rfl (fun h237 => ?_) (fun h237 => ?_)
        · skip
          have hf := xif_t h237 hf
          refine mv_lpick [1, 3, 4, 5, 6, 0] rfl ?_
          exact jn254 _ _ _ _ _ _ r_hz hf
        · skip
          have hf := xif_f h237 hf
          refine mv_aload_n (pc := 240) B d_Book_statement_240 rfl 1 rfl ?_
          refine mv_getR (pc := 241) (ci := 12) (C := R_Book) (T := F_Book) (N := 65) B 45 rfl rfl (by decide) i_Book (B.2.2.2.1 _ k_1894) rfl ((congrFun (congrFun r_hz 74) 45).trans (hb.1 74 45 _ rfl)) d_Book_statement_241 ?_
          refine mv_iload (pc := 244) B d_Book_statement_244 6 rfl ?_
          obtain ⟨q13, hf⟩ := xvi_e hf
          refine mv_iald (pc := 246) B rfl q13 d_Book_statement_246 ?_
          refine mv_if_le (pc := 247) (tgt := 254) B d_Book_statement_247 rfl (fun h247 => ?_) (fun h247 => ?_)
          · skip
            have hf := xif_t h247 hf
            refine mv_lpick [1, 3, 4, 5, 6, 0] rfl ?_
            exact jn254 _ _ _ _ _ _ r_hz hf
          · skip
            have hf := xif_f h247 hf
            refine mv_iconst (pc := 250) (v := 1) B d_Book_statement_250 (by decide) ?_
            refine mv_goto (pc := 251) (tgt := 255) B d_Book_statement_251 rfl ?_
            refine mv_lpick [1, 3, 4, 5, 6, 0] rfl ?_
            exact jn255 _ _ _ _ _ _ _ r_hz hf
      · skip
        have hf := xif_f h210 hf
        refine mv_lpick [1, 2] rfl ?_
        exact jn213 _ _ r_hz hf
  have jn184 : ∀ (x1 : Int32) (x3 : Int32) (x4 : Int32) (x5 : Int32) (x6 : Int32) (hz : mv_H), mv_r hz = mv_r h → f_Book_statement_184 74 (f_BookS 74 nn) x1 x3 x4 x5 x6 hz = some (rv, rg) → mv_V p l e ({ frames := nn + 1 + 881, cells := 0, slots := 0, locals := 60 * (nn + 1) + 53080 }) s m ([.ref (al 74)] : List Value).toArray below meth c (mg dA D al ext) 9 0 0 (mv_Q (mg dA D al ext) below s 0 0 (mv_Ui (fun v σ1 => rv = some v ∧ rg = σ1 ∧ mv_r σ1 = mv_r h) ("MachineLoomModel$Book$Wrong", al 107) (fun σ1 => rv = none ∧ rg = σ1 ∧ mv_r σ1 = mv_r h))) hz 184 [(0, .ref (al 74)), (1, .int x1), (3, .int x3), (4, .int x4), (5, .int x5), (6, .int x6)] [] := by
    intro x1 x3 x4 x5 x6 hz r_hz hf
    unfold f_Book_statement_184 at hf
    refine mv_iconst (pc := 184) (v := -1) B d_Book_statement_184 (by decide) ?_
    refine mv_goto (pc := 185) (tgt := 194) B d_Book_statement_185 rfl ?_
    refine mv_lpick [0, 1, 2, 3, 4, 5] rfl ?_
    exact jn194 _ _ _ _ _ _ _ r_hz hf
  have jn142 : ∀ (x1 : Int32) (x2 : Int32) (x3 : Int32) (x4 : Int32) (hz : mv_H), mv_r hz = mv_r h → f_Book_statement_142 74 (f_BookS 74 nn) x1 x2 x3 x4 hz = some (rv, rg) → mv_V p l e ({ frames := nn + 1 + 881, cells := 0, slots := 0, locals := 60 * (nn + 1) + 53080 }) s m ([.ref (al 74)] : List Value).toArray below meth c (mg dA D al ext) 9 0 0 (mv_Q (mg dA D al ext) below s 0 0 (mv_Ui (fun v σ1 => rv = some v ∧ rg = σ1 ∧ mv_r σ1 = mv_r h) ("MachineLoomModel$Book$Wrong", al 107) (fun σ1 => rv = none ∧ rg = σ1 ∧ mv_r σ1 = mv_r h))) hz 142 [(0, .ref (al 74)), (1, .int x1), (2, .int x2), (3, .int x3), (4, .int x4)] [] := by
    intro x1 x2 x3 x4 hz r_hz hf
    unfold f_Book_statement_142 at hf
    refine mv_aload_n (pc := 142) B d_Book_statement_142 rfl 0 rfl ?_
    refine mv_getI (pc := 143) (ci := 12) (C := R_Book) (T := F_Book) (N := 65) B 5 rfl rfl (by decide) i_Book (B.2.2.2.1 _ k_1848) rfl d_Book_statement_143 ?_
    refine mv_istore (pc := 146) B d_Book_statement_146 (by decide) rfl ?_
    refine mv_aload_n (pc := 148) B d_Book_statement_148 rfl 1 rfl ?_
    refine mv_bipush (pc := 149) (v := 61) B d_Book_statement_149 (by decide) ?_
    obtain ⟨og14, g14, eg14, hf⟩ := xtb_e hf
    refine mv_callVUv (pc := 151) (n := 1) (ci := 12) (C := R_Book) B (mK_ok sk sv) hNs rfl rfl (ch_Book_need_x l hi _ (xrw r_hz hb) _ eg14) rfl (ma_goodc kc_Book_need) (B.2.2.2.1 _ k_2177) (B.2.2.2.1 _ k_2179) (B.2.2.2.1 _ ks_91) (B.2.2.2.1 _ k_13) ⟨by decide +kernel, by decide +kernel, by decide +kernel⟩ rfl d_Book_statement_151 rfl (Nat.le_of_ble_eq_true rfl) ⟨by first | decide | (dsimp only; omega), by first | decide | (dsimp only; omega)⟩ ⟨Nat.le_refl _, Nat.le_refl _⟩ ⟨Nat.le_refl _, Nat.le_refl _⟩ (mv_noH hno _) (fun τ9 g9 => Or.inr ⟨rfl, xth hf g9 r_hz⟩) (fun σ151 h151 => ?_)
    obtain ⟨rfl, rfl, s_g14⟩ := h151
    have hf := xt2_s hf
    have r_g14 : mv_r g14 = mv_r h := s_g14.trans r_hz
    refine mv_aload_n (pc := 154) B d_Book_statement_154 rfl 1 rfl ?_
    obtain ⟨og16, g16, eg16, hf⟩ := xtb_e hf
    refine mv_callVUi (pc := 155) (n := 0) (ci := 12) (C := R_Book) B (mK_ok sk sv) hNs rfl rfl ((rec_x l hi 868).1 _ _ _ _ (xrw r_g14 hb) eg16) rfl (ma_goodc kc_Book_expression) (B.2.2.2.1 _ k_2245) (B.2.2.2.1 _ k_2247) (B.2.2.2.1 _ ks_104) (B.2.2.2.1 _ k_13) ⟨by decide +kernel, by decide +kernel, by decide +kernel⟩ rfl d_Book_statement_155 rfl (Nat.le_of_ble_eq_true rfl) ⟨by first | decide | (dsimp only; omega), by first | decide | (dsimp only; omega)⟩ ⟨Nat.le_refl _, Nat.le_refl _⟩ ⟨Nat.le_refl _, Nat.le_refl _⟩ (mv_noH hno _) (fun τ9 g9 => Or.inr ⟨rfl, xth hf g9 r_g14⟩) (fun u17 σ155 h155 => ?_)
    obtain ⟨rfl, rfl, s_g16⟩ := h155
    have hf := xt2_s hf
    have r_g16 : mv_r g16 = mv_r h := s_g16.trans r_g14
    refine mv_istore (pc := 158) B d_Book_statement_158 (by decide) rfl ?_
    refine mv_aload_n (pc := 160) B d_Book_statement_160 rfl 2 rfl ?_
    refine mv_bipush (pc := 161) (v := 59) B d_Book_statement_161 (by decide) ?_
    obtain ⟨og18, g18, eg18, hf⟩ := xtb_e hf
    refine mv_callVUv (pc := 163) (n := 1) (ci := 12) (C := R_Book) B (mK_ok sk sv) hNs rfl rfl (ch_Book_need_x l hi _ (xrw r_g16 hb) _ eg18) rfl (ma_goodc kc_Book_need) (B.2.2.2.1 _ k_2177) (B.2.2.2.1 _ k_2179) (B.2.2.2.1 _ ks_91) (B.2.2.2.1 _ k_13) ⟨by decide +kernel, by decide +kernel, by decide +kernel⟩ rfl d_Book_statement_163 rfl (Nat.le_of_ble_eq_true rfl) ⟨by first | decide | (dsimp only; omega), by first | decide | (dsimp only; omega)⟩ ⟨Nat.le_refl _, Nat.le_refl _⟩ ⟨Nat.le_refl _, Nat.le_refl _⟩ (mv_noH hno _) (fun τ9 g9 => Or.inr ⟨rfl, xth hf g9 r_g16⟩) (fun σ163 h163 => ?_)
    obtain ⟨rfl, rfl, s_g18⟩ := h163
    have hf := xt2_s hf
    have r_g18 : mv_r g18 = mv_r h := s_g18.trans r_g16
    refine mv_aload_n (pc := 166) B d_Book_statement_166 rfl 2 rfl ?_
    refine mv_iload_n (pc := 167) B d_Book_statement_167 rfl 3 rfl ?_
    refine mv_iload_n (pc := 168) B d_Book_statement_168 rfl 4 rfl ?_
    obtain ⟨u21, g20, eg20, hf⟩ := xhb_e hf
    refine mv_callVi (pc := 169) (n := 2) (ci := 12) (C := R_Book) B (mK_ok sk sv) hNs rfl rfl (ch_Book_let_x l hi _ (xrw r_g18 hb) _ _ eg20) rfl (ma_goodc kc_Book_let) (B.2.2.2.1 _ k_2305) (B.2.2.2.1 _ k_2307) (B.2.2.2.1 _ ks_116) (B.2.2.2.1 _ k_13) ⟨by decide +kernel, by decide +kernel, by decide +kernel⟩ rfl d_Book_statement_169 rfl (Nat.le_of_ble_eq_true rfl) ⟨by first | decide | (dsimp only; omega), by first | decide | (dsimp only; omega)⟩ ⟨Nat.le_refl _, Nat.le_refl _⟩ ⟨Nat.le_refl _, Nat.le_refl _⟩ (mv_noH hno _) (fun w169 σ169 h169 => ?_)
    obtain ⟨rfl, rfl, s_g20⟩ := h169
    have r_g20 : mv_r g20 = mv_r h := s_g20.trans r_g18
    refine mv_if_ge (pc := 172) (tgt := 184) B d_Book_statement_172 rfl (fun h172 => ?_) (fun h172 => ?_)
    · skip
      have hf := xif_t h172 hf
      refine mv_lpick [2, 3, 5, 6, 1, 0] rfl ?_
      exact jn184 _ _ _ _ _ _ r_g20 hf
    · skip
      have hf := xif_f h172 hf
      refine mv_aload_n (pc := 175) B d_Book_statement_175 rfl 2 rfl ?_
      refine mv_iload_n (pc := 176) B d_Book_statement_176 rfl 3 rfl ?_
      refine mv_iload_n (pc := 177) B d_Book_statement_177 rfl 4 rfl ?_
      obtain ⟨u23, g22, eg22, hf⟩ := xhb_e hf
      refine mv_callVi (pc := 178) (n := 2) (ci := 12) (C := R_Book) B (mK_ok sk sv) hNs rfl rfl (ch_Book_isField_x l hi _ (xrw r_g20 hb) _ _ eg22) rfl (ma_goodc kc_Book_isField) (B.2.2.2.1 _ k_2309) (B.2.2.2.1 _ k_2311) (B.2.2.2.1 _ ks_117) (B.2.2.2.1 _ k_13) ⟨by decide +kernel, by decide +kernel, by decide +kernel⟩ rfl d_Book_statement_178 rfl (Nat.le_of_ble_eq_true rfl) ⟨by first | decide | (dsimp only; omega), by first | decide | (dsimp only; omega)⟩ ⟨Nat.le_refl _, Nat.le_refl _⟩ ⟨Nat.le_refl _, Nat.le_refl _⟩ (mv_noH hno _) (fun w178 σ178 h178 => ?_)
      obtain ⟨rfl, rfl, s_g22⟩ := h178
      have r_g22 : mv_r g22 = mv_r h := s_g22.trans r_g20
      refine mv_if_eq (pc := 181) (tgt := 188) B d_Book_statement_181 rfl (fun h181 => ?_) (fun h181 => ?_)
      · skip
        have hf := xif_t h181 hf
        refine mv_aload_n (pc := 188) B d_Book_statement_188 rfl 2 rfl ?_
        refine mv_iload_n (pc := 189) B d_Book_statement_189 rfl 3 rfl ?_
        refine mv_iload_n (pc := 190) B d_Book_statement_190 rfl 4 rfl ?_
        obtain ⟨u25, g24, eg24, hf⟩ := xhb_e hf
        refine mv_callVi (pc := 191) (n := 2) (ci := 12) (C := R_Book) B (mK_ok sk sv) hNs rfl rfl (ch_Book_thing_x l hi _ (xrw r_g22 hb) _ _ eg24) rfl (ma_goodc kc_Book_thing) (B.2.2.2.1 _ k_2212) (B.2.2.2.1 _ k_2214) (B.2.2.2.1 _ ks_97) (B.2.2.2.1 _ k_13) ⟨by decide +kernel, by decide +kernel, by decide +kernel⟩ rfl d_Book_statement_191 rfl (Nat.le_of_ble_eq_true rfl) ⟨by first | decide | (dsimp only; omega), by first | decide | (dsimp only; omega)⟩ ⟨Nat.le_refl _, Nat.le_refl _⟩ ⟨Nat.le_refl _, Nat.le_refl _⟩ (mv_noH hno _) (fun w191 σ191 h191 => ?_)
        obtain ⟨rfl, rfl, s_g24⟩ := h191
        have r_g24 : mv_r g24 = mv_r h := s_g24.trans r_g22
        refine mv_lpick [2, 3, 5, 6, 1, 0] rfl ?_
        exact jn194 _ _ _ _ _ _ _ r_g24 hf
      · skip
        have hf := xif_f h181 hf
        refine mv_lpick [2, 3, 5, 6, 1, 0] rfl ?_
        exact jn184 _ _ _ _ _ _ r_g22 hf
  have jn100 : ∀ (x1 : Int32) (x2 : Int32) (x3 : Int32) (y0 : Int32) (hz : mv_H), mv_r hz = mv_r h → f_Book_statement_100 74 (f_BookS 74 nn) x1 x2 x3 y0 hz = some (rv, rg) → mv_V p l e ({ frames := nn + 1 + 881, cells := 0, slots := 0, locals := 60 * (nn + 1) + 53080 }) s m ([.ref (al 74)] : List Value).toArray below meth c (mg dA D al ext) 9 0 0 (mv_Q (mg dA D al ext) below s 0 0 (mv_Ui (fun v σ1 => rv = some v ∧ rg = σ1 ∧ mv_r σ1 = mv_r h) ("MachineLoomModel$Book$Wrong", al 107) (fun σ1 => rv = none ∧ rg = σ1 ∧ mv_r σ1 = mv_r h))) hz 100 [(0, .ref (al 74)), (1, .int x1), (2, .int x2), (3, .int x3)] [.int y0] := by
    intro x1 x2 x3 y0 hz r_hz hf
    unfold f_Book_statement_100 at hf
    refine mv_istore (pc := 100) B d_Book_statement_100 (by decide) rfl ?_
    refine mv_iload (pc := 102) B d_Book_statement_102 0 rfl ?_
    refine mv_if_eq (pc := 104) (tgt := 142) B d_Book_statement_104 rfl (fun h104 => ?_) (fun h104 => ?_)
    · skip
      have hf := xif_t h104 hf
      refine mv_lpick [1, 2, 3, 4, 0] rfl ?_
      exact jn142 _ _ _ _ _ r_hz hf
    · skip
      have hf := xif_f h104 hf
      refine mv_aload_n (pc := 107) B d_Book_statement_107 rfl 1 rfl ?_
      obtain ⟨og26, g26, eg26, hf⟩ := xtb_e hf
      refine mv_callVUv (pc := 108) (n := 0) (ci := 12) (C := R_Book) B (mK_ok sk sv) hNs rfl rfl (ch_Book_pass_x l hi _ (xrw r_hz hb) eg26) rfl (ma_goodc kc_Book_pass) (B.2.2.2.1 _ k_2173) (B.2.2.2.1 _ k_2175) (B.2.2.2.1 _ ks_90) (B.2.2.2.1 _ k_13) ⟨by decide +kernel, by decide +kernel, by decide +kernel⟩ rfl d_Book_statement_108 rfl (Nat.le_of_ble_eq_true rfl) ⟨by first | decide | (dsimp only; omega), by first | decide | (dsimp only; omega)⟩ ⟨Nat.le_refl _, Nat.le_refl _⟩ ⟨Nat.le_refl _, Nat.le_refl _⟩ (mv_noH hno _) (fun τ9 g9 => Or.inr ⟨rfl, xth hf g9 r_hz⟩) (fun σ108 h108 => ?_)
      obtain ⟨rfl, rfl, s_g26⟩ := h108
      have hf := xt2_s hf
      have r_g26 : mv_r g26 = mv_r h := s_g26.trans r_hz
      refine mv_aload_n (pc := 111) B d_Book_statement_111 rfl 1 rfl ?_
      refine mv_dup (pc := 112) B d_Book_statement_112 rfl ?_
      refine mv_getI (pc := 113) (ci := 12) (C := R_Book) (T := F_Book) (N := 65) B 8 rfl rfl (by decide) i_Book (B.2.2.2.1 _ k_1851) rfl d_Book_statement_113 ?_
      refine mv_iconst (pc := 116) (v := 1) B d_Book_statement_116 (by decide) ?_
      refine mv_iadd (pc := 117) B d_Book_statement_117 ?_
      refine mv_putI (pc := 118) (ci := 12) (C := R_Book) (T := F_Book) (N := 65) B 8 rfl rfl (by decide) i_Book t_Book_ok n_Book (B.2.2.2.1 _ k_1851) rfl rfl rfl rfl d_Book_statement_118 ?_
      refine mvh_hp (R9 := mv_r h) hf r_g26 (fun g28 hf r_g28 => ?_)
      refine mv_aload_n (pc := 121) B d_Book_statement_121 rfl 1 rfl ?_
      obtain ⟨og29, g29, eg29, hf⟩ := xtb_e hf
      refine mv_callVUi (pc := 122) (n := 0) (ci := 12) (C := R_Book) B (mK_ok sk sv) hNs rfl rfl ((rec_x l hi 868).1 _ _ _ _ (xrw r_g28 hb) eg29) rfl (ma_goodc kc_Book_expression) (B.2.2.2.1 _ k_2245) (B.2.2.2.1 _ k_2247) (B.2.2.2.1 _ ks_104) (B.2.2.2.1 _ k_13) ⟨by decide +kernel, by decide +kernel, by decide +kernel⟩ rfl d_Book_statement_122 rfl (Nat.le_of_ble_eq_true rfl) ⟨by first | decide | (dsimp only; omega), by first | decide | (dsimp only; omega)⟩ ⟨Nat.le_refl _, Nat.le_refl _⟩ ⟨Nat.le_refl _, Nat.le_refl _⟩ (mv_noH hno _) (fun τ9 g9 => Or.inr ⟨rfl, xth hf g9 r_g28⟩) (fun u30 σ122 h122 => ?_)
      obtain ⟨rfl, rfl, s_g29⟩ := h122
      have hf := xt2_s hf
      have r_g29 : mv_r g29 = mv_r h := s_g29.trans r_g28
      refine mv_istore_n (pc := 125) B d_Book_statement_125 rfl (by decide) rfl ?_
      refine mv_aload_n (pc := 126) B d_Book_statement_126 rfl 2 rfl ?_
      refine mv_bipush (pc := 127) (v := 93) B d_Book_statement_127 (by decide) ?_
      obtain ⟨og31, g31, eg31, hf⟩ := xtb_e hf
      refine mv_callVUv (pc := 129) (n := 1) (ci := 12) (C := R_Book) B (mK_ok sk sv) hNs rfl rfl (ch_Book_need_x l hi _ (xrw r_g29 hb) _ eg31) rfl (ma_goodc kc_Book_need) (B.2.2.2.1 _ k_2177) (B.2.2.2.1 _ k_2179) (B.2.2.2.1 _ ks_91) (B.2.2.2.1 _ k_13) ⟨by decide +kernel, by decide +kernel, by decide +kernel⟩ rfl d_Book_statement_129 rfl (Nat.le_of_ble_eq_true rfl) ⟨by first | decide | (dsimp only; omega), by first | decide | (dsimp only; omega)⟩ ⟨Nat.le_refl _, Nat.le_refl _⟩ ⟨Nat.le_refl _, Nat.le_refl _⟩ (mv_noH hno _) (fun τ9 g9 => Or.inr ⟨rfl, xth hf g9 r_g29⟩) (fun σ129 h129 => ?_)
      obtain ⟨rfl, rfl, s_g31⟩ := h129
      have hf := xt2_s hf
      have r_g31 : mv_r g31 = mv_r h := s_g31.trans r_g29
      refine mv_aload_n (pc := 132) B d_Book_statement_132 rfl 2 rfl ?_
      refine mv_dup (pc := 133) B d_Book_statement_133 rfl ?_
      refine mv_getI (pc := 134) (ci := 12) (C := R_Book) (T := F_Book) (N := 65) B 8 rfl rfl (by decide) i_Book (B.2.2.2.1 _ k_1851) rfl d_Book_statement_134 ?_
      refine mv_iconst (pc := 137) (v := 1) B d_Book_statement_137 (by decide) ?_
      refine mv_isub (pc := 138) B d_Book_statement_138 ?_
      refine mv_putI (pc := 139) (ci := 12) (C := R_Book) (T := F_Book) (N := 65) B 8 rfl rfl (by decide) i_Book t_Book_ok n_Book (B.2.2.2.1 _ k_1851) rfl rfl rfl rfl d_Book_statement_139 ?_
      refine mvh_hp (R9 := mv_r h) hf r_g31 (fun g33 hf r_g33 => ?_)
      refine mv_lpick [2, 3, 4, 0, 1] rfl ?_
      exact jn142 _ _ _ _ _ r_g33 hf
  unfold f_Book_statement at hf
  refine mv_aload_n (pc := 0) B d_Book_statement_0 rfl 0 rfl ?_
  refine mv_ldcwS (pc := 1) B (hNs.2.1 147 (by decide)).1 d_Book_statement_1 ?_
  obtain ⟨u35, g34, eg34, hf⟩ := xhb_e hf
  refine mv_callVi (pc := 4) (n := 1) (ci := 12) (C := R_Book) B (mK_ok sk sv) hNs rfl rfl (ch_Book_is_x l hi _ (hb) _ (by decide) eg34) rfl (ma_goodc kc_Book_is) (B.2.2.2.1 _ k_2163) (B.2.2.2.1 _ k_2165) (B.2.2.2.1 _ ks_88) (B.2.2.2.1 _ k_13) ⟨by decide +kernel, by decide +kernel, by decide +kernel⟩ rfl d_Book_statement_4 rfl (Nat.le_of_ble_eq_true rfl) ⟨by first | decide | (dsimp only; omega), by first | decide | (dsimp only; omega)⟩ ⟨Nat.le_refl _, Nat.le_refl _⟩ ⟨Nat.le_refl _, Nat.le_refl _⟩ (mv_noH hno _) (fun w4 σ4 h4 => ?_)
  obtain ⟨rfl, rfl, s_g34⟩ := h4
  have r_g34 : mv_r g34 = mv_r h := s_g34.trans rfl
  refine mv_if_eq (pc := 7) (tgt := 15) B d_Book_statement_7 rfl (fun h7 => ?_) (fun h7 => ?_)
  · skip
    have hf := xif_t h7 hf
    refine mv_aload_n (pc := 15) B d_Book_statement_15 rfl 0 rfl ?_
    refine mv_ldcwS (pc := 16) B (hNs.2.1 154 (by decide)).1 d_Book_statement_16 ?_
    obtain ⟨u37, g36, eg36, hf⟩ := xhb_e hf
    refine mv_callVi (pc := 19) (n := 1) (ci := 12) (C := R_Book) B (mK_ok sk sv) hNs rfl rfl (ch_Book_is_x l hi _ (xrw r_g34 hb) _ (by decide) eg36) rfl (ma_goodc kc_Book_is) (B.2.2.2.1 _ k_2163) (B.2.2.2.1 _ k_2165) (B.2.2.2.1 _ ks_88) (B.2.2.2.1 _ k_13) ⟨by decide +kernel, by decide +kernel, by decide +kernel⟩ rfl d_Book_statement_19 rfl (Nat.le_of_ble_eq_true rfl) ⟨by first | decide | (dsimp only; omega), by first | decide | (dsimp only; omega)⟩ ⟨Nat.le_refl _, Nat.le_refl _⟩ ⟨Nat.le_refl _, Nat.le_refl _⟩ (mv_noH hno _) (fun w19 σ19 h19 => ?_)
    obtain ⟨rfl, rfl, s_g36⟩ := h19
    have r_g36 : mv_r g36 = mv_r h := s_g36.trans r_g34
    refine mv_if_eq (pc := 22) (tgt := 55) B d_Book_statement_22 rfl (fun h22 => ?_) (fun h22 => ?_)
    · skip
      have hf := xif_t h22 hf
      refine mv_aload_n (pc := 55) B d_Book_statement_55 rfl 0 rfl ?_
      refine mv_ldcwS (pc := 56) B (hNs.2.1 155 (by decide)).1 d_Book_statement_56 ?_
      obtain ⟨u39, g38, eg38, hf⟩ := xhb_e hf
      refine mv_callVi (pc := 59) (n := 1) (ci := 12) (C := R_Book) B (mK_ok sk sv) hNs rfl rfl (ch_Book_is_x l hi _ (xrw r_g36 hb) _ (by decide) eg38) rfl (ma_goodc kc_Book_is) (B.2.2.2.1 _ k_2163) (B.2.2.2.1 _ k_2165) (B.2.2.2.1 _ ks_88) (B.2.2.2.1 _ k_13) ⟨by decide +kernel, by decide +kernel, by decide +kernel⟩ rfl d_Book_statement_59 rfl (Nat.le_of_ble_eq_true rfl) ⟨by first | decide | (dsimp only; omega), by first | decide | (dsimp only; omega)⟩ ⟨Nat.le_refl _, Nat.le_refl _⟩ ⟨Nat.le_refl _, Nat.le_refl _⟩ (mv_noH hno _) (fun w59 σ59 h59 => ?_)
      obtain ⟨rfl, rfl, s_g38⟩ := h59
      have r_g38 : mv_r g38 = mv_r h := s_g38.trans r_g36
      refine mv_if_eq (pc := 62) (tgt := 70) B d_Book_statement_62 rfl (fun h62 => ?_) (fun h62 => ?_)
      · skip
        have hf := xif_t h62 hf
        refine mv_aload_n (pc := 70) B d_Book_statement_70 rfl 0 rfl ?_
        obtain ⟨og40, g40, eg40, hf⟩ := xtb_e hf
        refine mv_callVUv (pc := 71) (n := 0) (ci := 12) (C := R_Book) B (mK_ok sk sv) hNs rfl rfl (ch_Book_name_x l hi _ (xrw r_g38 hb) eg40) rfl (ma_goodc kc_Book_name) (B.2.2.2.1 _ k_2194) (B.2.2.2.1 _ k_2196) (B.2.2.2.1 _ ks_94) (B.2.2.2.1 _ k_13) ⟨by decide +kernel, by decide +kernel, by decide +kernel⟩ rfl d_Book_statement_71 rfl (Nat.le_of_ble_eq_true rfl) ⟨by first | decide | (dsimp only; omega), by first | decide | (dsimp only; omega)⟩ ⟨Nat.le_refl _, Nat.le_refl _⟩ ⟨Nat.le_refl _, Nat.le_refl _⟩ (mv_noH hno _) (fun τ9 g9 => Or.inr ⟨rfl, xth hf g9 r_g38⟩) (fun σ71 h71 => ?_)
        obtain ⟨rfl, rfl, s_g40⟩ := h71
        have hf := xt2_s hf
        have r_g40 : mv_r g40 = mv_r h := s_g40.trans r_g38
        refine mv_aload_n (pc := 74) B d_Book_statement_74 rfl 0 rfl ?_
        refine mv_getI (pc := 75) (ci := 12) (C := R_Book) (T := F_Book) (N := 65) B 49 rfl rfl (by decide) i_Book (B.2.2.2.1 _ k_1898) rfl d_Book_statement_75 ?_
        refine mv_istore_n (pc := 78) B d_Book_statement_78 rfl (by decide) rfl ?_
        refine mv_aload_n (pc := 79) B d_Book_statement_79 rfl 1 rfl ?_
        refine mv_getI (pc := 80) (ci := 12) (C := R_Book) (T := F_Book) (N := 65) B 50 rfl rfl (by decide) i_Book (B.2.2.2.1 _ k_1899) rfl d_Book_statement_80 ?_
        refine mv_istore_n (pc := 83) B d_Book_statement_83 rfl (by decide) rfl ?_
        refine mv_iconst (pc := 84) (v := -1) B d_Book_statement_84 (by decide) ?_
        refine mv_istore_n (pc := 85) B d_Book_statement_85 rfl (by decide) rfl ?_
        refine mv_aload_n (pc := 86) B d_Book_statement_86 rfl 3 rfl ?_
        refine mv_getI (pc := 87) (ci := 12) (C := R_Book) (T := F_Book) (N := 65) B 4 rfl rfl (by decide) i_Book (B.2.2.2.1 _ k_1847) rfl d_Book_statement_87 ?_
        refine mv_bipush (pc := 90) (v := 91) B d_Book_statement_90 (by decide) ?_
        refine mv_icmp_ne (pc := 92) (tgt := 99) B d_Book_statement_92 rfl (fun h92 => ?_) (fun h92 => ?_)
        · skip
          have hf := xif_f h92 hf
          refine mv_iconst (pc := 99) (v := 0) B d_Book_statement_99 (by decide) ?_
          refine mv_lpick [3, 2, 1, 0] rfl ?_
          exact jn100 _ _ _ _ _ r_g40 hf
        · skip
          have hf := xif_t h92 hf
          refine mv_iconst (pc := 95) (v := 1) B d_Book_statement_95 (by decide) ?_
          refine mv_goto (pc := 96) (tgt := 100) B d_Book_statement_96 rfl ?_
          refine mv_lpick [3, 2, 1, 0] rfl ?_
          exact jn100 _ _ _ _ _ r_g40 hf
      · skip
        have hf := xif_f h62 hf
        refine mv_aload_n (pc := 65) B d_Book_statement_65 rfl 0 rfl ?_
        obtain ⟨og42, g42, eg42, hf⟩ := xtb_e hf
        refine mv_callVUi (pc := 66) (n := 0) (ci := 12) (C := R_Book) B (mK_ok sk sv) hNs rfl rfl (ih.2.2 _ _ _ (xrw r_g38 hb) eg42) rfl (ma_goodc kc_Book_ifStatement) (B.2.2.2.1 _ k_2328) (B.2.2.2.1 _ k_2330) (B.2.2.2.1 _ ks_120) (B.2.2.2.1 _ k_13) ⟨by decide +kernel, by decide +kernel, by decide +kernel⟩ rfl d_Book_statement_66 rfl (Nat.le_of_ble_eq_true rfl) ⟨by first | decide | (dsimp only; omega), by first | decide | (dsimp only; omega)⟩ ⟨Nat.le_refl _, Nat.le_refl _⟩ ⟨Nat.le_refl _, Nat.le_refl _⟩ (mv_noH hno _) (fun τ9 g9 => Or.inr ⟨rfl, xth hf g9 r_g38⟩) (fun u43 σ66 h66 => ?_)
        obtain ⟨rfl, rfl, s_g42⟩ := h66
        have hf := xt2_s hf
        have r_g42 : mv_r g42 = mv_r h := s_g42.trans r_g38
        exact mv_iret (pc := 69) B hr rfl d_Book_statement_69 (Nat.le_refl _) (Nat.le_refl _) (Or.inl ⟨_, rfl, xrt_i hf r_g42⟩)
    · skip
      have hf := xif_f h22 hf
      refine mv_aload_n (pc := 25) B d_Book_statement_25 rfl 0 rfl ?_
      obtain ⟨og44, g44, eg44, hf⟩ := xtb_e hf
      refine mv_callVUv (pc := 26) (n := 0) (ci := 12) (C := R_Book) B (mK_ok sk sv) hNs rfl rfl (ch_Book_pass_x l hi _ (xrw r_g36 hb) eg44) rfl (ma_goodc kc_Book_pass) (B.2.2.2.1 _ k_2173) (B.2.2.2.1 _ k_2175) (B.2.2.2.1 _ ks_90) (B.2.2.2.1 _ k_13) ⟨by decide +kernel, by decide +kernel, by decide +kernel⟩ rfl d_Book_statement_26 rfl (Nat.le_of_ble_eq_true rfl) ⟨by first | decide | (dsimp only; omega), by first | decide | (dsimp only; omega)⟩ ⟨Nat.le_refl _, Nat.le_refl _⟩ ⟨Nat.le_refl _, Nat.le_refl _⟩ (mv_noH hno _) (fun τ9 g9 => Or.inr ⟨rfl, xth hf g9 r_g36⟩) (fun σ26 h26 => ?_)
      obtain ⟨rfl, rfl, s_g44⟩ := h26
      have hf := xt2_s hf
      have r_g44 : mv_r g44 = mv_r h := s_g44.trans r_g36
      refine mv_aload_n (pc := 29) B d_Book_statement_29 rfl 0 rfl ?_
      refine mv_lconst (pc := 30) (v := 1) B d_Book_statement_30 (by decide) ?_
      refine mv_ldc2 (pc := 31) (v := 1000000) B (B.2.2.2.1 _ k_2326) d_Book_statement_31 ?_
      obtain ⟨og46, g46, eg46, hf⟩ := xtb_e hf
      refine mv_callVUi (pc := 34) (n := 2) (ci := 12) (C := R_Book) B (mK_ok sk sv) hNs rfl rfl (ch_Book_ranged_x l hi _ (xrw r_g44 hb) _ _ eg46) rfl (ma_goodc kc_Book_ranged) (B.2.2.2.1 _ k_2203) (B.2.2.2.1 _ k_2205) (B.2.2.2.1 _ ks_96) (B.2.2.2.1 _ k_13) ⟨by decide +kernel, by decide +kernel, by decide +kernel⟩ rfl d_Book_statement_34 rfl (Nat.le_of_ble_eq_true rfl) ⟨by first | decide | (dsimp only; omega), by first | decide | (dsimp only; omega)⟩ ⟨Nat.le_refl _, Nat.le_refl _⟩ ⟨Nat.le_refl _, Nat.le_refl _⟩ (mv_noH hno _) (fun τ9 g9 => Or.inr ⟨rfl, xth hf g9 r_g44⟩) (fun u47 σ34 h34 => ?_)
      obtain ⟨rfl, rfl, s_g46⟩ := h34
      have hf := xt2_s hf
      have r_g46 : mv_r g46 = mv_r h := s_g46.trans r_g44
      refine mv_istore_n (pc := 37) B d_Book_statement_37 rfl (by decide) rfl ?_
      refine mv_aload_n (pc := 38) B d_Book_statement_38 rfl 1 rfl ?_
      refine mv_bipush (pc := 39) (v := 59) B d_Book_statement_39 (by decide) ?_
      obtain ⟨og48, g48, eg48, hf⟩ := xtb_e hf
      refine mv_callVUv (pc := 41) (n := 1) (ci := 12) (C := R_Book) B (mK_ok sk sv) hNs rfl rfl (ch_Book_need_x l hi _ (xrw r_g46 hb) _ eg48) rfl (ma_goodc kc_Book_need) (B.2.2.2.1 _ k_2177) (B.2.2.2.1 _ k_2179) (B.2.2.2.1 _ ks_91) (B.2.2.2.1 _ k_13) ⟨by decide +kernel, by decide +kernel, by decide +kernel⟩ rfl d_Book_statement_41 rfl (Nat.le_of_ble_eq_true rfl) ⟨by first | decide | (dsimp only; omega), by first | decide | (dsimp only; omega)⟩ ⟨Nat.le_refl _, Nat.le_refl _⟩ ⟨Nat.le_refl _, Nat.le_refl _⟩ (mv_noH hno _) (fun τ9 g9 => Or.inr ⟨rfl, xth hf g9 r_g46⟩) (fun σ41 h41 => ?_)
      obtain ⟨rfl, rfl, s_g48⟩ := h41
      have hf := xt2_s hf
      have r_g48 : mv_r g48 = mv_r h := s_g48.trans r_g46
      refine mv_aload_n (pc := 44) B d_Book_statement_44 rfl 1 rfl ?_
      refine mv_bipush (pc := 45) (v := 17) B d_Book_statement_45 (by decide) ?_
      refine mv_iload_n (pc := 47) B d_Book_statement_47 rfl 0 rfl ?_
      refine mv_iconst (pc := 48) (v := 0) B d_Book_statement_48 (by decide) ?_
      refine mv_iconst (pc := 49) (v := 0) B d_Book_statement_49 (by decide) ?_
      refine mv_iconst (pc := 50) (v := 0) B d_Book_statement_50 (by decide) ?_
      obtain ⟨u51, g50, eg50, hf⟩ := xhb_e hf
      refine mv_callVi (pc := 51) (n := 5) (ci := 12) (C := R_Book) B (mK_ok sk sv) hNs rfl rfl (ch_Book_node_x l hi _ (xrw r_g48 hb) _ _ _ _ _ eg50) rfl (ma_goodc kc_Book_node) (B.2.2.2.1 _ k_2269) (B.2.2.2.1 _ k_2271) (B.2.2.2.1 _ ks_110) (B.2.2.2.1 _ k_13) ⟨by decide +kernel, by decide +kernel, by decide +kernel⟩ rfl d_Book_statement_51 rfl (Nat.le_of_ble_eq_true rfl) ⟨by first | decide | (dsimp only; omega), by first | decide | (dsimp only; omega)⟩ ⟨Nat.le_refl _, Nat.le_refl _⟩ ⟨Nat.le_refl _, Nat.le_refl _⟩ (mv_noH hno _) (fun w51 σ51 h51 => ?_)
      obtain ⟨rfl, rfl, s_g50⟩ := h51
      have r_g50 : mv_r g50 = mv_r h := s_g50.trans r_g48
      exact mv_iret (pc := 54) B hr rfl d_Book_statement_54 (Nat.le_refl _) (Nat.le_refl _) (Or.inl ⟨_, rfl, xrt_i hf r_g50⟩)
  · skip
    have hf := xif_f h7 hf
    refine mv_aload_n (pc := 10) B d_Book_statement_10 rfl 0 rfl ?_
    obtain ⟨og52, g52, eg52, hf⟩ := xtb_e hf
    refine mv_callVUi (pc := 11) (n := 0) (ci := 12) (C := R_Book) B (mK_ok sk sv) hNs rfl rfl (ch_Book_letStatement_x l hi _ (xrw r_g34 hb) eg52) rfl (ma_goodc kc_Book_letStatement) (B.2.2.2.1 _ k_2241) (B.2.2.2.1 _ k_2243) (B.2.2.2.1 _ ks_103) (B.2.2.2.1 _ k_13) ⟨by decide +kernel, by decide +kernel, by decide +kernel⟩ rfl d_Book_statement_11 rfl (Nat.le_of_ble_eq_true rfl) ⟨by first | decide | (dsimp only; omega), by first | decide | (dsimp only; omega)⟩ ⟨Nat.le_refl _, Nat.le_refl _⟩ ⟨Nat.le_refl _, Nat.le_refl _⟩ (mv_noH hno _) (fun τ9 g9 => Or.inr ⟨rfl, xth hf g9 r_g34⟩) (fun u53 σ11 h11 => ?_)
    obtain ⟨rfl, rfl, s_g52⟩ := h11
    have hf := xt2_s hf
    have r_g52 : mv_r g52 = mv_r h := s_g52.trans r_g34
    exact mv_iret (pc := 14) B hr rfl d_Book_statement_14 (Nat.le_refl _) (Nat.le_refl _) (Or.inl ⟨_, rfl, xrt_i hf r_g52⟩)
set_option maxHeartbeats 4000000 in
set_option maxRecDepth 100000 in
theorem cr_Book_ifStatement_x (l : Launch) {dA : FieldType → ClassId} {D : va_G} {al : Nat → Nat} {ext : mv_Sh} {sk sv : Nat → Nat} (hi : mv_inj (mg dA D al ext)) (nn : Nat) (ih : RecS l dA D al ext sk sv 74 nn) (h : mv_H) (hb : Br 74 (mv_r h))  {rv : Option Int32} {rg : mv_H} (hf : f_Book_ifStatement 74 (f_BookS 74 nn) h = some (rv, rg)) : mv_C l y_Book_ifStatement (Cond.code y_Book_ifStatement b_Book_ifStatement 7 (Option.some Jvm.ClassFile.FieldType.int) :: ma) ({ frames := nn + 1 + 881, cells := 0, slots := 0, locals := 60 * (nn + 1) + 53080 }) (mg dA D al ext) (mK sk sv) [.ref (al 74)] h (mv_Ui (fun v σ1 => rv = some v ∧ rg = σ1 ∧ mv_r σ1 = mv_r h) ("MachineLoomModel$Book$Wrong", al 107) (fun σ1 => rv = none ∧ rg = σ1 ∧ mv_r σ1 = mv_r h)) := by
  refine mv_C.ofV (cc := b_Book_ifStatement) (nL := 7) (ret := (Option.some Jvm.ClassFile.FieldType.int)) (by decide +kernel) rfl hi (Nat.le_of_ble_eq_true rfl) ?_
  intro p e s m below meth c B hNs hr hnm hno
  have lp4 : ∀ (nn4 : Nat) (x1 : Int32) (x2 : Int32) (hz : mv_H), mv_r hz = mv_r h → f_Book_ifStatement_4 74 (f_BookS 74 nn) nn4 x1 x2 hz = some (rv, rg) → mv_V p l e ({ frames := nn + 1 + 881, cells := 0, slots := 0, locals := 60 * (nn + 1) + 53080 }) s m ([.ref (al 74)] : List Value).toArray below meth c (mg dA D al ext) 7 0 0 (mv_Q (mg dA D al ext) below s 0 0 (mv_Ui (fun v σ1 => rv = some v ∧ rg = σ1 ∧ mv_r σ1 = mv_r h) ("MachineLoomModel$Book$Wrong", al 107) (fun σ1 => rv = none ∧ rg = σ1 ∧ mv_r σ1 = mv_r h))) hz 4 [(0, .ref (al 74)), (1, .int x1), (2, .int x2)] [] := by
    intro nn4
    induction nn4 with
    | zero => intro x1 x2 hz r_hz hf; cases hf
    | succ nn4 ih4 =>
      intro x1 x2 hz r_hz hf
      have jn81 : ∀ (x1 : Int32) (x6 : Int32) (hz : mv_H), mv_r hz = mv_r h → f_Book_ifStatement_81 74 (f_BookS 74 nn) (f_Book_ifStatement_4 74 (f_BookS 74 nn) nn4) x1 x6 hz = some (rv, rg) → mv_V p l e ({ frames := nn + 1 + 881, cells := 0, slots := 0, locals := 60 * (nn + 1) + 53080 }) s m ([.ref (al 74)] : List Value).toArray below meth c (mg dA D al ext) 7 0 0 (mv_Q (mg dA D al ext) below s 0 0 (mv_Ui (fun v σ1 => rv = some v ∧ rg = σ1 ∧ mv_r σ1 = mv_r h) ("MachineLoomModel$Book$Wrong", al 107) (fun σ1 => rv = none ∧ rg = σ1 ∧ mv_r σ1 = mv_r h))) hz 81 [(0, .ref (al 74)), (1, .int x1), (6, .int x6)] [] := by
        intro x1 x6 hz r_hz hf
        unfold f_Book_ifStatement_81 at hf
        refine mv_iload (pc := 81) B d_Book_ifStatement_81 2 rfl ?_
        refine mv_istore_n (pc := 83) B d_Book_ifStatement_83 rfl (by decide) rfl ?_
        refine mv_aload_n (pc := 84) B d_Book_ifStatement_84 rfl 1 rfl ?_
        refine mv_ldcwS (pc := 85) B (hNs.2.1 156 (by decide)).1 d_Book_ifStatement_85 ?_
        obtain ⟨u2, g1, eg1, hf⟩ := xhb_e hf
        refine mv_callVi (pc := 88) (n := 1) (ci := 12) (C := R_Book) B (mK_ok sk sv) hNs rfl rfl (ch_Book_is_x l hi _ (xrw r_hz hb) _ (by decide) eg1) rfl (ma_goodc kc_Book_is) (B.2.2.2.1 _ k_2163) (B.2.2.2.1 _ k_2165) (B.2.2.2.1 _ ks_88) (B.2.2.2.1 _ k_13) ⟨by decide +kernel, by decide +kernel, by decide +kernel⟩ rfl d_Book_ifStatement_88 rfl (Nat.le_of_ble_eq_true rfl) ⟨by first | decide | (dsimp only; omega), by first | decide | (dsimp only; omega)⟩ ⟨Nat.le_refl _, Nat.le_refl _⟩ ⟨Nat.le_refl _, Nat.le_refl _⟩ (mv_noH hno _) (fun w88 σ88 h88 => ?_)
        obtain ⟨rfl, rfl, s_g1⟩ := h88
        have r_g1 : mv_r g1 = mv_r h := s_g1.trans r_hz
        refine mv_if_ne (pc := 91) (tgt := 96) B d_Book_ifStatement_91 rfl (fun h91 => ?_) (fun h91 => ?_)
        · skip
          have hf := xif_f h91 hf
          refine mv_aload_n (pc := 96) B d_Book_ifStatement_96 rfl 1 rfl ?_
          obtain ⟨og3, g3, eg3, hf⟩ := xtb_e hf
          refine mv_callVUv (pc := 97) (n := 0) (ci := 12) (C := R_Book) B (mK_ok sk sv) hNs rfl rfl (ch_Book_pass_x l hi _ (xrw r_g1 hb) eg3) rfl (ma_goodc kc_Book_pass) (B.2.2.2.1 _ k_2173) (B.2.2.2.1 _ k_2175) (B.2.2.2.1 _ ks_90) (B.2.2.2.1 _ k_13) ⟨by decide +kernel, by decide +kernel, by decide +kernel⟩ rfl d_Book_ifStatement_97 rfl (Nat.le_of_ble_eq_true rfl) ⟨by first | decide | (dsimp only; omega), by first | decide | (dsimp only; omega)⟩ ⟨Nat.le_refl _, Nat.le_refl _⟩ ⟨Nat.le_refl _, Nat.le_refl _⟩ (mv_noH hno _) (fun τ9 g9 => Or.inr ⟨rfl, xth hf g9 r_g1⟩) (fun σ97 h97 => ?_)
          obtain ⟨rfl, rfl, s_g3⟩ := h97
          have hf := xt2_s hf
          have r_g3 : mv_r g3 = mv_r h := s_g3.trans r_g1
          refine mv_aload_n (pc := 100) B d_Book_ifStatement_100 rfl 1 rfl ?_
          refine mv_ldcwS (pc := 101) B (hNs.2.1 155 (by decide)).1 d_Book_ifStatement_101 ?_
          obtain ⟨u6, g5, eg5, hf⟩ := xhb_e hf
          refine mv_callVi (pc := 104) (n := 1) (ci := 12) (C := R_Book) B (mK_ok sk sv) hNs rfl rfl (ch_Book_is_x l hi _ (xrw r_g3 hb) _ (by decide) eg5) rfl (ma_goodc kc_Book_is) (B.2.2.2.1 _ k_2163) (B.2.2.2.1 _ k_2165) (B.2.2.2.1 _ ks_88) (B.2.2.2.1 _ k_13) ⟨by decide +kernel, by decide +kernel, by decide +kernel⟩ rfl d_Book_ifStatement_104 rfl (Nat.le_of_ble_eq_true rfl) ⟨by first | decide | (dsimp only; omega), by first | decide | (dsimp only; omega)⟩ ⟨Nat.le_refl _, Nat.le_refl _⟩ ⟨Nat.le_refl _, Nat.le_refl _⟩ (mv_noH hno _) (fun w104 σ104 h104 => ?_)
          obtain ⟨rfl, rfl, s_g5⟩ := h104
          have r_g5 : mv_r g5 = mv_r h := s_g5.trans r_g3
          refine mv_if_eq (pc := 107) (tgt := 113) B d_Book_ifStatement_107 rfl (fun h107 => ?_) (fun h107 => ?_)
          · skip
            have hf := xif_t h107 hf
            refine mv_aload_n (pc := 113) B d_Book_ifStatement_113 rfl 1 rfl ?_
            refine mv_getR (pc := 114) (ci := 12) (C := R_Book) (T := F_Book) (N := 65) B 43 rfl rfl (by decide) i_Book (B.2.2.2.1 _ k_1892) rfl ((congrFun (congrFun r_g5 74) 43).trans (hb.1 74 43 _ rfl)) d_Book_ifStatement_114 ?_
            refine mv_iload_n (pc := 117) B d_Book_ifStatement_117 rfl 0 rfl ?_
            refine mv_aload_n (pc := 118) B d_Book_ifStatement_118 rfl 1 rfl ?_
            obtain ⟨og7, g7, eg7, hf⟩ := xtb_e hf
            refine mv_callVUi (pc := 119) (n := 0) (ci := 12) (C := R_Book) B (mK_ok sk sv) hNs rfl rfl (ih.1 _ _ _ (xrw r_g5 hb) eg7) rfl (ma_goodc kc_Book_block) (B.2.2.2.1 _ k_2232) (B.2.2.2.1 _ k_2234) (B.2.2.2.1 _ ks_101) (B.2.2.2.1 _ k_13) ⟨by decide +kernel, by decide +kernel, by decide +kernel⟩ rfl d_Book_ifStatement_119 rfl (Nat.le_of_ble_eq_true rfl) ⟨by first | decide | (dsimp only; omega), by first | decide | (dsimp only; omega)⟩ ⟨Nat.le_refl _, Nat.le_refl _⟩ ⟨Nat.le_refl _, Nat.le_refl _⟩ (mv_noH hno _) (fun τ9 g9 => Or.inr ⟨rfl, xth hf g9 r_g5⟩) (fun u8 σ119 h119 => ?_)
            obtain ⟨rfl, rfl, s_g7⟩ := h119
            have hf := xt2_s hf
            have r_g7 : mv_r g7 = mv_r h := s_g7.trans r_g5
            obtain ⟨q9, hf⟩ := xvi_e hf
            refine mv_iast (pc := 122) B rfl q9 d_Book_ifStatement_122 ?_
            refine mvh_hp (R9 := mv_r h) hf r_g7 (fun g10 hf r_g10 => ?_)
            refine mv_iload_n (pc := 123) B d_Book_ifStatement_123 rfl 2 rfl ?_
            exact mv_iret (pc := 124) B hr rfl d_Book_ifStatement_124 (Nat.le_refl _) (Nat.le_refl _) (Or.inl ⟨_, rfl, xrt_i hf r_g10⟩)
          · skip
            have hf := xif_f h107 hf
            refine mv_goto (pc := 110) (tgt := 4) B d_Book_ifStatement_110 rfl ?_
            refine mv_lpick [1, 2, 0] rfl ?_
            exact ih4 _ _ _ r_g5 hf
        · skip
          have hf := xif_t h91 hf
          refine mv_iload_n (pc := 94) B d_Book_ifStatement_94 rfl 2 rfl ?_
          exact mv_iret (pc := 95) B hr rfl d_Book_ifStatement_95 (Nat.le_refl _) (Nat.le_refl _) (Or.inl ⟨_, rfl, xrt_i hf r_g1⟩)
      have jn36 : ∀ (x1 : Int32) (x2 : Int32) (x4 : Int32) (hz : mv_H), mv_r hz = mv_r h → f_Book_ifStatement_36 74 (f_BookS 74 nn) (f_Book_ifStatement_4 74 (f_BookS 74 nn) nn4) x1 x2 x4 hz = some (rv, rg) → mv_V p l e ({ frames := nn + 1 + 881, cells := 0, slots := 0, locals := 60 * (nn + 1) + 53080 }) s m ([.ref (al 74)] : List Value).toArray below meth c (mg dA D al ext) 7 0 0 (mv_Q (mg dA D al ext) below s 0 0 (mv_Ui (fun v σ1 => rv = some v ∧ rg = σ1 ∧ mv_r σ1 = mv_r h) ("MachineLoomModel$Book$Wrong", al 107) (fun σ1 => rv = none ∧ rg = σ1 ∧ mv_r σ1 = mv_r h))) hz 36 [(0, .ref (al 74)), (1, .int x1), (2, .int x2), (4, .int x4)] [] := by
        intro x1 x2 x4 hz r_hz hf
        unfold f_Book_ifStatement_36 at hf
        refine mv_aload_n (pc := 36) B d_Book_ifStatement_36 rfl 0 rfl ?_
        obtain ⟨og11, g11, eg11, hf⟩ := xtb_e hf
        refine mv_callVUi (pc := 37) (n := 0) (ci := 12) (C := R_Book) B (mK_ok sk sv) hNs rfl rfl (ih.1 _ _ _ (xrw r_hz hb) eg11) rfl (ma_goodc kc_Book_block) (B.2.2.2.1 _ k_2232) (B.2.2.2.1 _ k_2234) (B.2.2.2.1 _ ks_101) (B.2.2.2.1 _ k_13) ⟨by decide +kernel, by decide +kernel, by decide +kernel⟩ rfl d_Book_ifStatement_37 rfl (Nat.le_of_ble_eq_true rfl) ⟨by first | decide | (dsimp only; omega), by first | decide | (dsimp only; omega)⟩ ⟨Nat.le_refl _, Nat.le_refl _⟩ ⟨Nat.le_refl _, Nat.le_refl _⟩ (mv_noH hno _) (fun τ9 g9 => Or.inr ⟨rfl, xth hf g9 r_hz⟩) (fun u12 σ37 h37 => ?_)
        obtain ⟨rfl, rfl, s_g11⟩ := h37
        have hf := xt2_s hf
        have r_g11 : mv_r g11 = mv_r h := s_g11.trans r_hz
        refine mv_istore (pc := 40) B d_Book_ifStatement_40 (by decide) rfl ?_
        refine mv_aload_n (pc := 42) B d_Book_ifStatement_42 rfl 1 rfl ?_
        refine mv_bipush (pc := 43) (v := 18) B d_Book_ifStatement_43 (by decide) ?_
        refine mv_iload (pc := 45) B d_Book_ifStatement_45 4 rfl ?_
        refine mv_iload (pc := 47) B d_Book_ifStatement_47 0 rfl ?_
        refine mv_iconst (pc := 49) (v := -1) B d_Book_ifStatement_49 (by decide) ?_
        refine mv_iconst (pc := 50) (v := 0) B d_Book_ifStatement_50 (by decide) ?_
        obtain ⟨u14, g13, eg13, hf⟩ := xhb_e hf
        refine mv_callVi (pc := 51) (n := 5) (ci := 12) (C := R_Book) B (mK_ok sk sv) hNs rfl rfl (ch_Book_node_x l hi _ (xrw r_g11 hb) _ _ _ _ _ eg13) rfl (ma_goodc kc_Book_node) (B.2.2.2.1 _ k_2269) (B.2.2.2.1 _ k_2271) (B.2.2.2.1 _ ks_110) (B.2.2.2.1 _ k_13) ⟨by decide +kernel, by decide +kernel, by decide +kernel⟩ rfl d_Book_ifStatement_51 rfl (Nat.le_of_ble_eq_true rfl) ⟨by first | decide | (dsimp only; omega), by first | decide | (dsimp only; omega)⟩ ⟨Nat.le_refl _, Nat.le_refl _⟩ ⟨Nat.le_refl _, Nat.le_refl _⟩ (mv_noH hno _) (fun w51 σ51 h51 => ?_)
        obtain ⟨rfl, rfl, s_g13⟩ := h51
        have r_g13 : mv_r g13 = mv_r h := s_g13.trans r_g11
        refine mv_istore (pc := 54) B d_Book_ifStatement_54 (by decide) rfl ?_
        refine mv_iload_n (pc := 56) B d_Book_ifStatement_56 rfl 4 rfl ?_
        refine mv_if_ge (pc := 57) (tgt := 66) B d_Book_ifStatement_57 rfl (fun h57 => ?_) (fun h57 => ?_)
        · skip
          have hf := xif_t h57 hf
          refine mv_aload_n (pc := 66) B d_Book_ifStatement_66 rfl 2 rfl ?_
          refine mv_getR (pc := 67) (ci := 12) (C := R_Book) (T := F_Book) (N := 65) B 43 rfl rfl (by decide) i_Book (B.2.2.2.1 _ k_1892) rfl ((congrFun (congrFun r_g13 74) 43).trans (hb.1 74 43 _ rfl)) d_Book_ifStatement_67 ?_
          refine mv_iload_n (pc := 70) B d_Book_ifStatement_70 rfl 4 rfl ?_
          refine mv_iload (pc := 71) B d_Book_ifStatement_71 0 rfl ?_
          obtain ⟨q15, hf⟩ := xvi_e hf
          refine mv_iast (pc := 73) B rfl q15 d_Book_ifStatement_73 ?_
          refine mvh_hp (R9 := mv_r h) hf r_g13 (fun g16 hf r_g16 => ?_)
          refine mv_aload_n (pc := 74) B d_Book_ifStatement_74 rfl 2 rfl ?_
          refine mv_getR (pc := 75) (ci := 12) (C := R_Book) (T := F_Book) (N := 65) B 47 rfl rfl (by decide) i_Book (B.2.2.2.1 _ k_1896) rfl ((congrFun (congrFun r_g16 74) 47).trans (hb.1 74 47 _ rfl)) d_Book_ifStatement_75 ?_
          refine mv_iload_n (pc := 78) B d_Book_ifStatement_78 rfl 4 rfl ?_
          refine mv_iconst (pc := 79) (v := 1) B d_Book_ifStatement_79 (by decide) ?_
          obtain ⟨q17, hf⟩ := xvi_e hf
          refine mv_zast (pc := 80) B rfl q17 d_Book_ifStatement_80 ?_
          refine mvh_hp (R9 := mv_r h) hf r_g16 (fun g18 hf r_g18 => ?_)
          refine mv_lpick [2, 3, 0] rfl ?_
          exact jn81 _ _ _ r_g18 hf
        · skip
          have hf := xif_f h57 hf
          refine mv_iload (pc := 60) B d_Book_ifStatement_60 0 rfl ?_
          refine mv_istore_n (pc := 62) B d_Book_ifStatement_62 rfl (by decide) rfl ?_
          refine mv_goto (pc := 63) (tgt := 81) B d_Book_ifStatement_63 rfl ?_
          refine mv_lpick [3, 0, 1] rfl ?_
          exact jn81 _ _ _ r_g13 hf
      have hf : fF_Book_ifStatement_4 74 (f_BookS 74 nn) (f_Book_ifStatement_4 74 (f_BookS 74 nn) nn4) x1 x2 hz = some (rv, rg) := hf
      unfold fF_Book_ifStatement_4 at hf
      refine mv_aload_n (pc := 4) B d_Book_ifStatement_4 rfl 0 rfl ?_
      refine mv_getI (pc := 5) (ci := 12) (C := R_Book) (T := F_Book) (N := 65) B 5 rfl rfl (by decide) i_Book (B.2.2.2.1 _ k_1848) rfl d_Book_ifStatement_5 ?_
      refine mv_istore_n (pc := 8) B d_Book_ifStatement_8 rfl (by decide) rfl ?_
      refine mv_aload_n (pc := 9) B d_Book_ifStatement_9 rfl 1 rfl ?_
      obtain ⟨og19, g19, eg19, hf⟩ := xtb_e hf
      refine mv_callVUv (pc := 10) (n := 0) (ci := 12) (C := R_Book) B (mK_ok sk sv) hNs rfl rfl (ch_Book_pass_x l hi _ (xrw r_hz hb) eg19) rfl (ma_goodc kc_Book_pass) (B.2.2.2.1 _ k_2173) (B.2.2.2.1 _ k_2175) (B.2.2.2.1 _ ks_90) (B.2.2.2.1 _ k_13) ⟨by decide +kernel, by decide +kernel, by decide +kernel⟩ rfl d_Book_ifStatement_10 rfl (Nat.le_of_ble_eq_true rfl) ⟨by first | decide | (dsimp only; omega), by first | decide | (dsimp only; omega)⟩ ⟨Nat.le_refl _, Nat.le_refl _⟩ ⟨Nat.le_refl _, Nat.le_refl _⟩ (mv_noH hno _) (fun τ9 g9 => Or.inr ⟨rfl, xth hf g9 r_hz⟩) (fun σ10 h10 => ?_)
      obtain ⟨rfl, rfl, s_g19⟩ := h10
      have hf := xt2_s hf
      have r_g19 : mv_r g19 = mv_r h := s_g19.trans r_hz
      refine mv_aload_n (pc := 13) B d_Book_ifStatement_13 rfl 1 rfl ?_
      obtain ⟨og21, g21, eg21, hf⟩ := xtb_e hf
      refine mv_callVUi (pc := 14) (n := 0) (ci := 12) (C := R_Book) B (mK_ok sk sv) hNs rfl rfl ((rec_x l hi 868).1 _ _ _ _ (xrw r_g19 hb) eg21) rfl (ma_goodc kc_Book_expression) (B.2.2.2.1 _ k_2245) (B.2.2.2.1 _ k_2247) (B.2.2.2.1 _ ks_104) (B.2.2.2.1 _ k_13) ⟨by decide +kernel, by decide +kernel, by decide +kernel⟩ rfl d_Book_ifStatement_14 rfl (Nat.le_of_ble_eq_true rfl) ⟨by first | decide | (dsimp only; omega), by first | decide | (dsimp only; omega)⟩ ⟨Nat.le_refl _, Nat.le_refl _⟩ ⟨Nat.le_refl _, Nat.le_refl _⟩ (mv_noH hno _) (fun τ9 g9 => Or.inr ⟨rfl, xth hf g9 r_g19⟩) (fun u22 σ14 h14 => ?_)
      obtain ⟨rfl, rfl, s_g21⟩ := h14
      have hf := xt2_s hf
      have r_g21 : mv_r g21 = mv_r h := s_g21.trans r_g19
      refine mv_istore (pc := 17) B d_Book_ifStatement_17 (by decide) rfl ?_
      refine mv_aload_n (pc := 19) B d_Book_ifStatement_19 rfl 2 rfl ?_
      refine mv_getR (pc := 20) (ci := 12) (C := R_Book) (T := F_Book) (N := 65) B 45 rfl rfl (by decide) i_Book (B.2.2.2.1 _ k_1894) rfl ((congrFun (congrFun r_g21 74) 45).trans (hb.1 74 45 _ rfl)) d_Book_ifStatement_20 ?_
      refine mv_iload (pc := 23) B d_Book_ifStatement_23 0 rfl ?_
      obtain ⟨q23, hf⟩ := xvi_e hf
      refine mv_iald (pc := 25) B rfl q23 d_Book_ifStatement_25 ?_
      refine mv_iconst (pc := 26) (v := 1) B d_Book_ifStatement_26 (by decide) ?_
      refine mv_icmp_le (pc := 27) (tgt := 36) B d_Book_ifStatement_27 rfl (fun h27 => ?_) (fun h27 => ?_)
      · skip
        have hf := xif_t h27 hf
        refine mv_lpick [2, 3, 4, 0] rfl ?_
        exact jn36 _ _ _ _ r_g21 hf
      · skip
        have hf := xif_f h27 hf
        refine mv_aload_n (pc := 30) B d_Book_ifStatement_30 rfl 2 rfl ?_
        refine mv_iconst (pc := 31) (v := 4) B d_Book_ifStatement_31 (by decide) ?_
        refine mv_iload_n (pc := 32) B d_Book_ifStatement_32 rfl 1 rfl ?_
        obtain ⟨g24, eg24, hf⟩ := xhv_e hf
        refine mv_callVv (pc := 33) (n := 2) (ci := 12) (C := R_Book) B (mK_ok sk sv) hNs rfl rfl (ch_Book_fault_x l hi _ _ _ eg24) rfl (ma_goodc kc_Book_fault) (B.2.2.2.1 _ k_2185) (B.2.2.2.1 _ k_2187) (B.2.2.2.1 _ ks_92) (B.2.2.2.1 _ k_13) ⟨by decide +kernel, by decide +kernel, by decide +kernel⟩ rfl d_Book_ifStatement_33 rfl (Nat.le_of_ble_eq_true rfl) ⟨by first | decide | (dsimp only; omega), by first | decide | (dsimp only; omega)⟩ ⟨Nat.le_refl _, Nat.le_refl _⟩ ⟨Nat.le_refl _, Nat.le_refl _⟩ (mv_noH hno _) (fun σ33 h33 => ?_)
        obtain ⟨rfl, s_g24⟩ := h33
        have r_g24 : mv_r g24 = mv_r h := s_g24.trans r_g21
        refine mv_lpick [2, 3, 4, 0] rfl ?_
        exact jn36 _ _ _ _ r_g24 hf
  unfold f_Book_ifStatement at hf
  refine mv_iconst (pc := 0) (v := -1) B d_Book_ifStatement_0 (by decide) ?_
  refine mv_istore_n (pc := 1) B d_Book_ifStatement_1 rfl (by decide) rfl ?_
  refine mv_iconst (pc := 2) (v := -1) B d_Book_ifStatement_2 (by decide) ?_
  refine mv_istore_n (pc := 3) B d_Book_ifStatement_3 rfl (by decide) rfl ?_
  refine mv_lpick [2, 1, 0] rfl ?_
  exact lp4 _ _ _ _ rfl hf
theorem rec2_0x (l : Launch) {dA : FieldType → ClassId} {D : va_G} {al : Nat → Nat} {ext : mv_Sh} {sk sv : Nat → Nat} (hi : mv_inj (mg dA D al ext)) : RecS l dA D al ext sk sv 74 0 := ⟨(fun h rv rg hb hf => by cases hf), (fun h rv rg hb hf => by cases hf), (fun h rv rg hb hf => by cases hf)⟩
theorem rec2_1x (l : Launch) {dA : FieldType → ClassId} {D : va_G} {al : Nat → Nat} {ext : mv_Sh} {sk sv : Nat → Nat} (hi : mv_inj (mg dA D al ext)) (nn : Nat) (ih : RecS l dA D al ext sk sv 74 nn) : RecS l dA D al ext sk sv 74 (nn + 1) := ⟨(fun h rv rg hb hf => cr_Book_block_x l hi nn ih h hb (by rw [f_BookS] at hf; exact hf)), (fun h rv rg hb hf => cr_Book_statement_x l hi nn ih h hb (by rw [f_BookS] at hf; exact hf)), (fun h rv rg hb hf => cr_Book_ifStatement_x l hi nn ih h hb (by rw [f_BookS] at hf; exact hf))⟩
theorem rec2_x (l : Launch) {dA : FieldType → ClassId} {D : va_G} {al : Nat → Nat} {ext : mv_Sh} {sk sv : Nat → Nat} (hi : mv_inj (mg dA D al ext)) : ∀ nn, RecS l dA D al ext sk sv 74 nn := by
  intro nn
  induction nn with
  | zero => exact rec2_0x l hi
  | succ nn ih => exact rec2_1x l hi nn ih
set_option maxHeartbeats 4000000 in
set_option maxRecDepth 100000 in
theorem cr_Book_block_y (l : Launch) {dA : FieldType → ClassId} {D : va_G} {al : Nat → Nat} {ext : mv_Sh} {sk sv : Nat → Nat} (hi : mv_inj (mg dA D al ext)) (nn : Nat) (ih : RecS l dA D al ext sk sv 108 nn) (h : mv_H) (hb : Br 108 (mv_r h))  {rv : Option Int32} {rg : mv_H} (hf : f_Book_block 108 (f_BookS 108 nn) h = some (rv, rg)) : mv_C l y_Book_block (Cond.code y_Book_block b_Book_block 5 (Option.some Jvm.ClassFile.FieldType.int) :: ma) ({ frames := nn + 1 + 881, cells := 0, slots := 0, locals := 60 * (nn + 1) + 53080 }) (mg dA D al ext) (mK sk sv) [.ref (al 108)] h (mv_Ui (fun v σ1 => rv = some v ∧ rg = σ1 ∧ mv_r σ1 = mv_r h) ("MachineLoomModel$Book$Wrong", al 141) (fun σ1 => rv = none ∧ rg = σ1 ∧ mv_r σ1 = mv_r h)) := by
  refine mv_C.ofV (cc := b_Book_block) (nL := 5) (ret := (Option.some Jvm.ClassFile.FieldType.int)) (by decide +kernel) rfl hi (Nat.le_of_ble_eq_true rfl) ?_
  intro p e s m below meth c B hNs hr hnm hno
  have lp25 : ∀ (nn25 : Nat) (x1 : Int32) (x2 : Int32) (x3 : Int32) (hz : mv_H), mv_r hz = mv_r h → f_Book_block_25 108 (f_BookS 108 nn) nn25 x1 x2 x3 hz = some (rv, rg) → mv_V p l e ({ frames := nn + 1 + 881, cells := 0, slots := 0, locals := 60 * (nn + 1) + 53080 }) s m ([.ref (al 108)] : List Value).toArray below meth c (mg dA D al ext) 5 0 0 (mv_Q (mg dA D al ext) below s 0 0 (mv_Ui (fun v σ1 => rv = some v ∧ rg = σ1 ∧ mv_r σ1 = mv_r h) ("MachineLoomModel$Book$Wrong", al 141) (fun σ1 => rv = none ∧ rg = σ1 ∧ mv_r σ1 = mv_r h))) hz 25 [(0, .ref (al 108)), (1, .int x1), (2, .int x2), (3, .int x3)] [] := by
    intro nn25
    induction nn25 with
    | zero => intro x1 x2 x3 hz r_hz hf; cases hf
    | succ nn25 ih25 =>
      intro x1 x2 x3 hz r_hz hf
      have jn58 : ∀ (x1 : Int32) (x2 : Int32) (x4 : Int32) (hz : mv_H), mv_r hz = mv_r h → f_Book_block_58 108 (f_BookS 108 nn) (f_Book_block_25 108 (f_BookS 108 nn) nn25) x1 x2 x4 hz = some (rv, rg) → mv_V p l e ({ frames := nn + 1 + 881, cells := 0, slots := 0, locals := 60 * (nn + 1) + 53080 }) s m ([.ref (al 108)] : List Value).toArray below meth c (mg dA D al ext) 5 0 0 (mv_Q (mg dA D al ext) below s 0 0 (mv_Ui (fun v σ1 => rv = some v ∧ rg = σ1 ∧ mv_r σ1 = mv_r h) ("MachineLoomModel$Book$Wrong", al 141) (fun σ1 => rv = none ∧ rg = σ1 ∧ mv_r σ1 = mv_r h))) hz 58 [(0, .ref (al 108)), (1, .int x1), (2, .int x2), (4, .int x4)] [] := by
        intro x1 x2 x4 hz r_hz hf
        unfold f_Book_block_58 at hf
        refine mv_iload (pc := 58) B d_Book_block_58 3 rfl ?_
        refine mv_istore_n (pc := 60) B d_Book_block_60 rfl (by decide) rfl ?_
        refine mv_goto (pc := 61) (tgt := 25) B d_Book_block_61 rfl ?_
        refine mv_lpick [1, 2, 3, 0] rfl ?_
        exact ih25 _ _ _ _ r_hz hf
      have hf : fF_Book_block_25 108 (f_BookS 108 nn) (f_Book_block_25 108 (f_BookS 108 nn) nn25) x1 x2 x3 hz = some (rv, rg) := hf
      unfold fF_Book_block_25 at hf
      refine mv_aload_n (pc := 25) B d_Book_block_25 rfl 0 rfl ?_
      refine mv_getI (pc := 26) (ci := 12) (C := R_Book) (T := F_Book) (N := 65) B 4 rfl rfl (by decide) i_Book (B.2.2.2.1 _ k_1847) rfl d_Book_block_26 ?_
      refine mv_bipush (pc := 29) (v := 125) B d_Book_block_29 (by decide) ?_
      refine mv_icmp_eq (pc := 31) (tgt := 64) B d_Book_block_31 rfl (fun h31 => ?_) (fun h31 => ?_)
      · skip
        have hf := xif_t h31 hf
        refine mv_aload_n (pc := 64) B d_Book_block_64 rfl 0 rfl ?_
        refine mv_bipush (pc := 65) (v := 125) B d_Book_block_65 (by decide) ?_
        obtain ⟨og1, g1, eg1, hf⟩ := xtb_e hf
        refine mv_callVUv (pc := 67) (n := 1) (ci := 12) (C := R_Book) B (mK_ok sk sv) hNs rfl rfl (ch_Book_need_y l hi _ (xrw r_hz hb) _ eg1) rfl (ma_goodc kc_Book_need) (B.2.2.2.1 _ k_2177) (B.2.2.2.1 _ k_2179) (B.2.2.2.1 _ ks_91) (B.2.2.2.1 _ k_13) ⟨by decide +kernel, by decide +kernel, by decide +kernel⟩ rfl d_Book_block_67 rfl (Nat.le_of_ble_eq_true rfl) ⟨by first | decide | (dsimp only; omega), by first | decide | (dsimp only; omega)⟩ ⟨Nat.le_refl _, Nat.le_refl _⟩ ⟨Nat.le_refl _, Nat.le_refl _⟩ (mv_noH hno _) (fun τ9 g9 => Or.inr ⟨rfl, xth hf g9 r_hz⟩) (fun σ67 h67 => ?_)
        obtain ⟨rfl, rfl, s_g1⟩ := h67
        have hf := xt2_s hf
        have r_g1 : mv_r g1 = mv_r h := s_g1.trans r_hz
        refine mv_aload_n (pc := 70) B d_Book_block_70 rfl 0 rfl ?_
        refine mv_dup (pc := 71) B d_Book_block_71 rfl ?_
        refine mv_getI (pc := 72) (ci := 12) (C := R_Book) (T := F_Book) (N := 65) B 8 rfl rfl (by decide) i_Book (B.2.2.2.1 _ k_1851) rfl d_Book_block_72 ?_
        refine mv_iconst (pc := 75) (v := 1) B d_Book_block_75 (by decide) ?_
        refine mv_isub (pc := 76) B d_Book_block_76 ?_
        refine mv_putI (pc := 77) (ci := 12) (C := R_Book) (T := F_Book) (N := 65) B 8 rfl rfl (by decide) i_Book t_Book_ok n_Book (B.2.2.2.1 _ k_1851) rfl rfl rfl rfl d_Book_block_77 ?_
        refine mvh_hp (R9 := mv_r h) hf r_g1 (fun g3 hf r_g3 => ?_)
        refine mv_aload_n (pc := 80) B d_Book_block_80 rfl 0 rfl ?_
        refine mv_iload_n (pc := 81) B d_Book_block_81 rfl 1 rfl ?_
        refine mv_putI (pc := 82) (ci := 12) (C := R_Book) (T := F_Book) (N := 65) B 35 rfl rfl (by decide) i_Book t_Book_ok n_Book (B.2.2.2.1 _ k_1881) rfl rfl rfl rfl d_Book_block_82 ?_
        refine mvh_hp (R9 := mv_r h) hf r_g3 (fun g4 hf r_g4 => ?_)
        refine mv_iload_n (pc := 85) B d_Book_block_85 rfl 2 rfl ?_
        exact mv_iret (pc := 86) B hr rfl d_Book_block_86 (Nat.le_refl _) (Nat.le_refl _) (Or.inl ⟨_, rfl, xrt_i hf r_g4⟩)
      · skip
        have hf := xif_f h31 hf
        refine mv_aload_n (pc := 34) B d_Book_block_34 rfl 0 rfl ?_
        obtain ⟨og5, g5, eg5, hf⟩ := xtb_e hf
        refine mv_callVUi (pc := 35) (n := 0) (ci := 12) (C := R_Book) B (mK_ok sk sv) hNs rfl rfl (ih.2.1 _ _ _ (xrw r_hz hb) eg5) rfl (ma_goodc kc_Book_statement) (B.2.2.2.1 _ k_2236) (B.2.2.2.1 _ k_2238) (B.2.2.2.1 _ ks_102) (B.2.2.2.1 _ k_13) ⟨by decide +kernel, by decide +kernel, by decide +kernel⟩ rfl d_Book_block_35 rfl (Nat.le_of_ble_eq_true rfl) ⟨by first | decide | (dsimp only; omega), by first | decide | (dsimp only; omega)⟩ ⟨Nat.le_refl _, Nat.le_refl _⟩ ⟨Nat.le_refl _, Nat.le_refl _⟩ (mv_noH hno _) (fun τ9 g9 => Or.inr ⟨rfl, xth hf g9 r_hz⟩) (fun u6 σ35 h35 => ?_)
        obtain ⟨rfl, rfl, s_g5⟩ := h35
        have hf := xt2_s hf
        have r_g5 : mv_r g5 = mv_r h := s_g5.trans r_hz
        refine mv_istore (pc := 38) B d_Book_block_38 (by decide) rfl ?_
        refine mv_iload_n (pc := 40) B d_Book_block_40 rfl 4 rfl ?_
        refine mv_if_ge (pc := 41) (tgt := 50) B d_Book_block_41 rfl (fun h41 => ?_) (fun h41 => ?_)
        · skip
          have hf := xif_t h41 hf
          refine mv_aload_n (pc := 50) B d_Book_block_50 rfl 1 rfl ?_
          refine mv_getR (pc := 51) (ci := 12) (C := R_Book) (T := F_Book) (N := 65) B 44 rfl rfl (by decide) i_Book (B.2.2.2.1 _ k_1893) rfl ((congrFun (congrFun r_g5 108) 44).trans (hb.1 108 44 _ rfl)) d_Book_block_51 ?_
          refine mv_iload_n (pc := 54) B d_Book_block_54 rfl 4 rfl ?_
          refine mv_iload (pc := 55) B d_Book_block_55 0 rfl ?_
          obtain ⟨q7, hf⟩ := xvi_e hf
          refine mv_iast (pc := 57) B rfl q7 d_Book_block_57 ?_
          refine mvh_hp (R9 := mv_r h) hf r_g5 (fun g8 hf r_g8 => ?_)
          refine mv_lpick [1, 2, 3, 0] rfl ?_
          exact jn58 _ _ _ _ r_g8 hf
        · skip
          have hf := xif_f h41 hf
          refine mv_iload (pc := 44) B d_Book_block_44 0 rfl ?_
          refine mv_istore_n (pc := 46) B d_Book_block_46 rfl (by decide) rfl ?_
          refine mv_goto (pc := 47) (tgt := 58) B d_Book_block_47 rfl ?_
          refine mv_lpick [2, 3, 0, 1] rfl ?_
          exact jn58 _ _ _ _ r_g5 hf
  unfold f_Book_block at hf
  refine mv_aload_n (pc := 0) B d_Book_block_0 rfl 0 rfl ?_
  refine mv_bipush (pc := 1) (v := 123) B d_Book_block_1 (by decide) ?_
  obtain ⟨og9, g9, eg9, hf⟩ := xtb_e hf
  refine mv_callVUv (pc := 3) (n := 1) (ci := 12) (C := R_Book) B (mK_ok sk sv) hNs rfl rfl (ch_Book_need_y l hi _ (hb) _ eg9) rfl (ma_goodc kc_Book_need) (B.2.2.2.1 _ k_2177) (B.2.2.2.1 _ k_2179) (B.2.2.2.1 _ ks_91) (B.2.2.2.1 _ k_13) ⟨by decide +kernel, by decide +kernel, by decide +kernel⟩ rfl d_Book_block_3 rfl (Nat.le_of_ble_eq_true rfl) ⟨by first | decide | (dsimp only; omega), by first | decide | (dsimp only; omega)⟩ ⟨Nat.le_refl _, Nat.le_refl _⟩ ⟨Nat.le_refl _, Nat.le_refl _⟩ (mv_noH hno _) (fun τ9 g9 => Or.inr ⟨rfl, xth hf g9 rfl⟩) (fun σ3 h3 => ?_)
  obtain ⟨rfl, rfl, s_g9⟩ := h3
  have hf := xt2_s hf
  have r_g9 : mv_r g9 = mv_r h := s_g9.trans rfl
  refine mv_aload_n (pc := 6) B d_Book_block_6 rfl 0 rfl ?_
  refine mv_dup (pc := 7) B d_Book_block_7 rfl ?_
  refine mv_getI (pc := 8) (ci := 12) (C := R_Book) (T := F_Book) (N := 65) B 8 rfl rfl (by decide) i_Book (B.2.2.2.1 _ k_1851) rfl d_Book_block_8 ?_
  refine mv_iconst (pc := 11) (v := 1) B d_Book_block_11 (by decide) ?_
  refine mv_iadd (pc := 12) B d_Book_block_12 ?_
  refine mv_putI (pc := 13) (ci := 12) (C := R_Book) (T := F_Book) (N := 65) B 8 rfl rfl (by decide) i_Book t_Book_ok n_Book (B.2.2.2.1 _ k_1851) rfl rfl rfl rfl d_Book_block_13 ?_
  refine mvh_hp (R9 := mv_r h) hf r_g9 (fun g11 hf r_g11 => ?_)
  refine mv_aload_n (pc := 16) B d_Book_block_16 rfl 0 rfl ?_
  refine mv_getI (pc := 17) (ci := 12) (C := R_Book) (T := F_Book) (N := 65) B 35 rfl rfl (by decide) i_Book (B.2.2.2.1 _ k_1881) rfl d_Book_block_17 ?_
  refine mv_istore_n (pc := 20) B d_Book_block_20 rfl (by decide) rfl ?_
  refine mv_iconst (pc := 21) (v := -1) B d_Book_block_21 (by decide) ?_
  refine mv_istore_n (pc := 22) B d_Book_block_22 rfl (by decide) rfl ?_
  refine mv_iconst (pc := 23) (v := -1) B d_Book_block_23 (by decide) ?_
  refine mv_istore_n (pc := 24) B d_Book_block_24 rfl (by decide) rfl ?_
  refine mv_lpick [3, 2, 1, 0] rfl ?_
  exact lp25 _ _ _ _ _ r_g11 hf
set_option maxHeartbeats 4000000 in
set_option maxRecDepth 100000 in
theorem cr_Book_statement_y (l : Launch) {dA : FieldType → ClassId} {D : va_G} {al : Nat → Nat} {ext : mv_Sh} {sk sv : Nat → Nat} (hi : mv_inj (mg dA D al ext)) (nn : Nat) (ih : RecS l dA D al ext sk sv 108 nn) (h : mv_H) (hb : Br 108 (mv_r h))  {rv : Option Int32} {rg : mv_H} (hf : f_Book_statement 108 (f_BookS 108 nn) h = some (rv, rg)) : mv_C l y_Book_statement (Cond.code y_Book_statement b_Book_statement 9 (Option.some Jvm.ClassFile.FieldType.int) :: ma) ({ frames := nn + 1 + 881, cells := 0, slots := 0, locals := 60 * (nn + 1) + 53080 }) (mg dA D al ext) (mK sk sv) [.ref (al 108)] h (mv_Ui (fun v σ1 => rv = some v ∧ rg = σ1 ∧ mv_r σ1 = mv_r h) ("MachineLoomModel$Book$Wrong", al 141) (fun σ1 => rv = none ∧ rg = σ1 ∧ mv_r σ1 = mv_r h)) := by
  refine mv_C.ofV (cc := b_Book_statement) (nL := 9) (ret := (Option.some Jvm.ClassFile.FieldType.int)) (by decide +kernel) rfl hi (Nat.le_of_ble_eq_true rfl) ?_
  intro p e s m below meth c B hNs hr hnm hno
  have jn299 : ∀ (x3 : Int32) (x6 : Int32) (x7 : Int32) (y0 : Int32) (hz : mv_H), mv_r hz = mv_r h → f_Book_statement_299 108 (f_BookS 108 nn) x3 x6 x7 y0 hz = some (rv, rg) → mv_V p l e ({ frames := nn + 1 + 881, cells := 0, slots := 0, locals := 60 * (nn + 1) + 53080 }) s m ([.ref (al 108)] : List Value).toArray below meth c (mg dA D al ext) 9 0 0 (mv_Q (mg dA D al ext) below s 0 0 (mv_Ui (fun v σ1 => rv = some v ∧ rg = σ1 ∧ mv_r σ1 = mv_r h) ("MachineLoomModel$Book$Wrong", al 141) (fun σ1 => rv = none ∧ rg = σ1 ∧ mv_r σ1 = mv_r h))) hz 299 [(3, .int x3), (6, .int x6), (7, .int x7)] [.int y0, .ref (al 108)] := by
    intro x3 x6 x7 y0 hz r_hz hf
    unfold f_Book_statement_299 at hf
    refine mv_iload (pc := 299) B d_Book_statement_299 2 rfl ?_
    refine mv_iload (pc := 301) B d_Book_statement_301 1 rfl ?_
    refine mv_iload_n (pc := 303) B d_Book_statement_303 rfl 0 rfl ?_
    refine mv_iconst (pc := 304) (v := 0) B d_Book_statement_304 (by decide) ?_
    obtain ⟨u2, g1, eg1, hf⟩ := xhb_e hf
    refine mv_callVi (pc := 305) (n := 5) (ci := 12) (C := R_Book) B (mK_ok sk sv) hNs rfl rfl (ch_Book_node_y l hi _ (xrw r_hz hb) _ _ _ _ _ eg1) rfl (ma_goodc kc_Book_node) (B.2.2.2.1 _ k_2269) (B.2.2.2.1 _ k_2271) (B.2.2.2.1 _ ks_110) (B.2.2.2.1 _ k_13) ⟨by decide +kernel, by decide +kernel, by decide +kernel⟩ rfl d_Book_statement_305 rfl (Nat.le_of_ble_eq_true rfl) ⟨by first | decide | (dsimp only; omega), by first | decide | (dsimp only; omega)⟩ ⟨Nat.le_refl _, Nat.le_refl _⟩ ⟨Nat.le_refl _, Nat.le_refl _⟩ (mv_noH hno _) (fun w305 σ305 h305 => ?_)
    obtain ⟨rfl, rfl, s_g1⟩ := h305
    have r_g1 : mv_r g1 = mv_r h := s_g1.trans r_hz
    exact mv_iret (pc := 308) B hr rfl d_Book_statement_308 (Nat.le_refl _) (Nat.le_refl _) (Or.inl ⟨_, rfl, xrt_i hf r_g1⟩)
  have jn286 : ∀ (x3 : Int32) (x4 : Int32) (x6 : Int32) (x7 : Int32) (hz : mv_H), mv_r hz = mv_r h → f_Book_statement_286 108 (f_BookS 108 nn) x3 x4 x6 x7 hz = some (rv, rg) → mv_V p l e ({ frames := nn + 1 + 881, cells := 0, slots := 0, locals := 60 * (nn + 1) + 53080 }) s m ([.ref (al 108)] : List Value).toArray below meth c (mg dA D al ext) 9 0 0 (mv_Q (mg dA D al ext) below s 0 0 (mv_Ui (fun v σ1 => rv = some v ∧ rg = σ1 ∧ mv_r σ1 = mv_r h) ("MachineLoomModel$Book$Wrong", al 141) (fun σ1 => rv = none ∧ rg = σ1 ∧ mv_r σ1 = mv_r h))) hz 286 [(0, .ref (al 108)), (3, .int x3), (4, .int x4), (6, .int x6), (7, .int x7)] [] := by
    intro x3 x4 x6 x7 hz r_hz hf
    unfold f_Book_statement_286 at hf
    refine mv_aload_n (pc := 286) B d_Book_statement_286 rfl 0 rfl ?_
    refine mv_iload (pc := 287) B d_Book_statement_287 2 rfl ?_
    refine mv_if_eq (pc := 289) (tgt := 297) B d_Book_statement_289 rfl (fun h289 => ?_) (fun h289 => ?_)
    · skip
      have hf := xif_t h289 hf
      refine mv_bipush (pc := 297) (v := 15) B d_Book_statement_297 (by decide) ?_
      refine mv_lpick [1, 3, 4] rfl ?_
      exact jn299 _ _ _ _ _ r_hz hf
    · skip
      have hf := xif_f h289 hf
      refine mv_bipush (pc := 292) (v := 16) B d_Book_statement_292 (by decide) ?_
      refine mv_goto (pc := 294) (tgt := 299) B d_Book_statement_294 rfl ?_
      refine mv_lpick [1, 3, 4] rfl ?_
      exact jn299 _ _ _ _ _ r_hz hf
  have jn255 : ∀ (x3 : Int32) (x4 : Int32) (x5 : Int32) (x6 : Int32) (x7 : Int32) (y0 : Int32) (hz : mv_H), mv_r hz = mv_r h → f_Book_statement_255 108 (f_BookS 108 nn) x3 x4 x5 x6 x7 y0 hz = some (rv, rg) → mv_V p l e ({ frames := nn + 1 + 881, cells := 0, slots := 0, locals := 60 * (nn + 1) + 53080 }) s m ([.ref (al 108)] : List Value).toArray below meth c (mg dA D al ext) 9 0 0 (mv_Q (mg dA D al ext) below s 0 0 (mv_Ui (fun v σ1 => rv = some v ∧ rg = σ1 ∧ mv_r σ1 = mv_r h) ("MachineLoomModel$Book$Wrong", al 141) (fun σ1 => rv = none ∧ rg = σ1 ∧ mv_r σ1 = mv_r h))) hz 255 [(0, .ref (al 108)), (3, .int x3), (4, .int x4), (5, .int x5), (6, .int x6), (7, .int x7)] [.int y0] := by
    intro x3 x4 x5 x6 x7 y0 hz r_hz hf
    unfold f_Book_statement_255 at hf
    refine mv_istore (pc := 255) B d_Book_statement_255 (by decide) rfl ?_
    refine mv_iload (pc := 257) B d_Book_statement_257 0 rfl ?_
    refine mv_if_eq (pc := 259) (tgt := 286) B d_Book_statement_259 rfl (fun h259 => ?_) (fun h259 => ?_)
    · skip
      have hf := xif_t h259 hf
      refine mv_lpick [1, 2, 3, 5, 6] rfl ?_
      exact jn286 _ _ _ _ _ r_hz hf
    · skip
      have hf := xif_f h259 hf
      refine mv_aload_n (pc := 262) B d_Book_statement_262 rfl 1 rfl ?_
      refine mv_getR (pc := 263) (ci := 12) (C := R_Book) (T := F_Book) (N := 65) B 12 rfl rfl (by decide) i_Book (B.2.2.2.1 _ k_1855) rfl ((congrFun (congrFun r_hz 108) 12).trans (hb.1 108 12 _ rfl)) d_Book_statement_263 ?_
      refine mv_iload (pc := 266) B d_Book_statement_266 6 rfl ?_
      obtain ⟨q3, hf⟩ := xvi_e hf
      refine mv_iald (pc := 268) B rfl q3 d_Book_statement_268 ?_
      refine mv_aload_n (pc := 269) B d_Book_statement_269 rfl 1 rfl ?_
      refine mv_getR (pc := 270) (ci := 12) (C := R_Book) (T := F_Book) (N := 65) B 45 rfl rfl (by decide) i_Book (B.2.2.2.1 _ k_1894) rfl ((congrFun (congrFun r_hz 108) 45).trans (hb.1 108 45 _ rfl)) d_Book_statement_270 ?_
      refine mv_iload (pc := 273) B d_Book_statement_273 5 rfl ?_
      obtain ⟨q4, hf⟩ := xvi_e hf
      refine mv_iald (pc := 275) B rfl q4 d_Book_statement_275 ?_
      refine mv_icmp_eq (pc := 276) (tgt := 286) B d_Book_statement_276 rfl (fun h276 => ?_) (fun h276 => ?_)
      · skip
        have hf := xif_t h276 hf
        refine mv_lpick [1, 2, 3, 5, 6] rfl ?_
        exact jn286 _ _ _ _ _ r_hz hf
      · skip
        have hf := xif_f h276 hf
        refine mv_aload_n (pc := 279) B d_Book_statement_279 rfl 1 rfl ?_
        refine mv_iconst (pc := 280) (v := 4) B d_Book_statement_280 (by decide) ?_
        refine mv_iload (pc := 281) B d_Book_statement_281 4 rfl ?_
        obtain ⟨g5, eg5, hf⟩ := xhv_e hf
        refine mv_callVv (pc := 283) (n := 2) (ci := 12) (C := R_Book) B (mK_ok sk sv) hNs rfl rfl (ch_Book_fault_y l hi _ _ _ eg5) rfl (ma_goodc kc_Book_fault) (B.2.2.2.1 _ k_2185) (B.2.2.2.1 _ k_2187) (B.2.2.2.1 _ ks_92) (B.2.2.2.1 _ k_13) ⟨by decide +kernel, by decide +kernel, by decide +kernel⟩ rfl d_Book_statement_283 rfl (Nat.le_of_ble_eq_true rfl) ⟨by first | decide | (dsimp only; omega), by first | decide | (dsimp only; omega)⟩ ⟨Nat.le_refl _, Nat.le_refl _⟩ ⟨Nat.le_refl _, Nat.le_refl _⟩ (mv_noH hno _) (fun σ283 h283 => ?_)
        obtain ⟨rfl, s_g5⟩ := h283
        have r_g5 : mv_r g5 = mv_r h := s_g5.trans r_hz
        refine mv_lpick [1, 2, 3, 5, 6] rfl ?_
        exact jn286 _ _ _ _ _ r_g5 hf
  have jn254 : ∀ (x3 : Int32) (x4 : Int32) (x5 : Int32) (x6 : Int32) (x7 : Int32) (hz : mv_H), mv_r hz = mv_r h → f_Book_statement_254 108 (f_BookS 108 nn) x3 x4 x5 x6 x7 hz = some (rv, rg) → mv_V p l e ({ frames := nn + 1 + 881, cells := 0, slots := 0, locals := 60 * (nn + 1) + 53080 }) s m ([.ref (al 108)] : List Value).toArray below meth c (mg dA D al ext) 9 0 0 (mv_Q (mg dA D al ext) below s 0 0 (mv_Ui (fun v σ1 => rv = some v ∧ rg = σ1 ∧ mv_r σ1 = mv_r h) ("MachineLoomModel$Book$Wrong", al 141) (fun σ1 => rv = none ∧ rg = σ1 ∧ mv_r σ1 = mv_r h))) hz 254 [(0, .ref (al 108)), (3, .int x3), (4, .int x4), (5, .int x5), (6, .int x6), (7, .int x7)] [] := by
    intro x3 x4 x5 x6 x7 hz r_hz hf
    unfold f_Book_statement_254 at hf
    refine mv_iconst (pc := 254) (v := 0) B d_Book_statement_254 (by decide) ?_
    refine mv_lpick [0, 1, 2, 3, 4, 5] rfl ?_
    exact jn255 _ _ _ _ _ _ _ r_hz hf
  have jn213 : ∀ (x1 : Int32) (hz : mv_H), mv_r hz = mv_r h → f_Book_statement_213 108 (f_BookS 108 nn) x1 hz = some (rv, rg) → mv_V p l e ({ frames := nn + 1 + 881, cells := 0, slots := 0, locals := 60 * (nn + 1) + 53080 }) s m ([.ref (al 108)] : List Value).toArray below meth c (mg dA D al ext) 9 0 0 (mv_Q (mg dA D al ext) below s 0 0 (mv_Ui (fun v σ1 => rv = some v ∧ rg = σ1 ∧ mv_r σ1 = mv_r h) ("MachineLoomModel$Book$Wrong", al 141) (fun σ1 => rv = none ∧ rg = σ1 ∧ mv_r σ1 = mv_r h))) hz 213 [(0, .ref (al 108)), (1, .int x1)] [] := by
    intro x1 hz r_hz hf
    unfold f_Book_statement_213 at hf
    refine mv_aload_n (pc := 213) B d_Book_statement_213 rfl 0 rfl ?_
    refine mv_iconst (pc := 214) (v := 2) B d_Book_statement_214 (by decide) ?_
    refine mv_iload_n (pc := 215) B d_Book_statement_215 rfl 1 rfl ?_
    obtain ⟨g7, eg7, hf⟩ := xhv_e hf
    refine mv_callVv (pc := 216) (n := 2) (ci := 12) (C := R_Book) B (mK_ok sk sv) hNs rfl rfl (ch_Book_fault_y l hi _ _ _ eg7) rfl (ma_goodc kc_Book_fault) (B.2.2.2.1 _ k_2185) (B.2.2.2.1 _ k_2187) (B.2.2.2.1 _ ks_92) (B.2.2.2.1 _ k_13) ⟨by decide +kernel, by decide +kernel, by decide +kernel⟩ rfl d_Book_statement_216 rfl (Nat.le_of_ble_eq_true rfl) ⟨by first | decide | (dsimp only; omega), by first | decide | (dsimp only; omega)⟩ ⟨Nat.le_refl _, Nat.le_refl _⟩ ⟨Nat.le_refl _, Nat.le_refl _⟩ (mv_noH hno _) (fun σ216 h216 => ?_)
    obtain ⟨rfl, s_g7⟩ := h216
    have r_g7 : mv_r g7 = mv_r h := s_g7.trans r_hz
    refine mv_aload_n (pc := 219) B d_Book_statement_219 rfl 0 rfl ?_
    refine mv_bipush (pc := 220) (v := 13) B d_Book_statement_220 (by decide) ?_
    refine mv_iconst (pc := 222) (v := 0) B d_Book_statement_222 (by decide) ?_
    refine mv_iconst (pc := 223) (v := 0) B d_Book_statement_223 (by decide) ?_
    refine mv_iconst (pc := 224) (v := 0) B d_Book_statement_224 (by decide) ?_
    refine mv_iconst (pc := 225) (v := 0) B d_Book_statement_225 (by decide) ?_
    obtain ⟨u10, g9, eg9, hf⟩ := xhb_e hf
    refine mv_callVi (pc := 226) (n := 5) (ci := 12) (C := R_Book) B (mK_ok sk sv) hNs rfl rfl (ch_Book_node_y l hi _ (xrw r_g7 hb) _ _ _ _ _ eg9) rfl (ma_goodc kc_Book_node) (B.2.2.2.1 _ k_2269) (B.2.2.2.1 _ k_2271) (B.2.2.2.1 _ ks_110) (B.2.2.2.1 _ k_13) ⟨by decide +kernel, by decide +kernel, by decide +kernel⟩ rfl d_Book_statement_226 rfl (Nat.le_of_ble_eq_true rfl) ⟨by first | decide | (dsimp only; omega), by first | decide | (dsimp only; omega)⟩ ⟨Nat.le_refl _, Nat.le_refl _⟩ ⟨Nat.le_refl _, Nat.le_refl _⟩ (mv_noH hno _) (fun w226 σ226 h226 => ?_)
    obtain ⟨rfl, rfl, s_g9⟩ := h226
    have r_g9 : mv_r g9 = mv_r h := s_g9.trans r_g7
    exact mv_iret (pc := 229) B hr rfl d_Book_statement_229 (Nat.le_refl _) (Nat.le_refl _) (Or.inl ⟨_, rfl, xrt_i hf r_g9⟩)
  have jn194 : ∀ (x1 : Int32) (x3 : Int32) (x4 : Int32) (x5 : Int32) (x6 : Int32) (y0 : Int32) (hz : mv_H), mv_r hz = mv_r h → f_Book_statement_194 108 (f_BookS 108 nn) x1 x3 x4 x5 x6 y0 hz = some (rv, rg) → mv_V p l e ({ frames := nn + 1 + 881, cells := 0, slots := 0, locals := 60 * (nn + 1) + 53080 }) s m ([.ref (al 108)] : List Value).toArray below meth c (mg dA D al ext) 9 0 0 (mv_Q (mg dA D al ext) below s 0 0 (mv_Ui (fun v σ1 => rv = some v ∧ rg = σ1 ∧ mv_r σ1 = mv_r h) ("MachineLoomModel$Book$Wrong", al 141) (fun σ1 => rv = none ∧ rg = σ1 ∧ mv_r σ1 = mv_r h))) hz 194 [(0, .ref (al 108)), (1, .int x1), (3, .int x3), (4, .int x4), (5, .int x5), (6, .int x6)] [.int y0] := by
    intro x1 x3 x4 x5 x6 y0 hz r_hz hf
    unfold f_Book_statement_194 at hf
    refine mv_istore (pc := 194) B d_Book_statement_194 (by decide) rfl ?_
    refine mv_iload (pc := 196) B d_Book_statement_196 0 rfl ?_
    refine mv_if_lt (pc := 198) (tgt := 213) B d_Book_statement_198 rfl (fun h198 => ?_) (fun h198 => ?_)
    · skip
      have hf := xif_t h198 hf
      refine mv_lpick [1, 2] rfl ?_
      exact jn213 _ _ r_hz hf
    · skip
      have hf := xif_f h198 hf
      refine mv_aload_n (pc := 201) B d_Book_statement_201 rfl 1 rfl ?_
      refine mv_getR (pc := 202) (ci := 12) (C := R_Book) (T := F_Book) (N := 65) B 15 rfl rfl (by decide) i_Book (B.2.2.2.1 _ k_1858) rfl ((congrFun (congrFun r_hz 108) 15).trans (hb.1 108 15 _ rfl)) d_Book_statement_202 ?_
      refine mv_iload (pc := 205) B d_Book_statement_205 0 rfl ?_
      obtain ⟨q11, hf⟩ := xvi_e hf
      refine mv_zald (pc := 207) B rfl q11 d_Book_statement_207 ?_
      refine mv_iload (pc := 208) B d_Book_statement_208 4 rfl ?_
      refine mv_icmp_eq (pc := 210) (tgt := 230) B d_Book_statement_210 rfl (fun h210 => ?_) (fun h210 => ?_)
      · skip
        have hf := xif_t h210 hf
        refine mv_aload_n (pc := 230) B d_Book_statement_230 rfl 1 rfl ?_
        refine mv_getR (pc := 231) (ci := 12) (C := R_Book) (T := F_Book) (N := 65) B 12 rfl rfl (by decide) i_Book (B.2.2.2.1 _ k_1855) rfl ((congrFun (congrFun r_hz 108) 12).trans (hb.1 108 12 _ rfl)) d_Book_statement_231 ?_
        refine mv_iload (pc := 234) B d_Book_statement_234 0 rfl ?_
        obtain ⟨q12, hf⟩ := xvi_e hf
        refine mv_iald (pc := 236) B rfl q12 d_Book_statement_236 ?_
        refine mv_if_le (pc := 237) (tgt := 254) B d_Book_statement_237 rfl (fun h237 => ?_) (fun h237 => ?_)
        · skip
          have hf := xif_t h237 hf
          refine mv_lpick [1, 3, 4, 5, 6, 0] rfl ?_
          exact jn254 _ _ _ _ _ _ r_hz hf
        · skip
          have hf := xif_f h237 hf
          refine mv_aload_n (pc := 240) B d_Book_statement_240 rfl 1 rfl ?_
          refine mv_getR (pc := 241) (ci := 12) (C := R_Book) (T := F_Book) (N := 65) B 45 rfl rfl (by decide) i_Book (B.2.2.2.1 _ k_1894) rfl ((congrFun (congrFun r_hz 108) 45).trans (hb.1 108 45 _ rfl)) d_Book_statement_241 ?_
          refine mv_iload (pc := 244) B d_Book_statement_244 6 rfl ?_
          obtain ⟨q13, hf⟩ := xvi_e hf
          refine mv_iald (pc := 246) B rfl q13 d_Book_statement_246 ?_
          refine mv_if_le (pc := 247) (tgt := 254) B d_Book_statement_247 rfl (fun h247 => ?_) (fun h247 => ?_)
          · skip
            have hf := xif_t h247 hf
            refine mv_lpick [1, 3, 4, 5, 6, 0] rfl ?_
            exact jn254 _ _ _ _ _ _ r_hz hf
          · skip
            have hf := xif_f h247 hf
            refine mv_iconst (pc := 250) (v := 1) B d_Book_statement_250 (by decide) ?_
            refine mv_goto (pc := 251) (tgt := 255) B d_Book_statement_251 rfl ?_
            refine mv_lpick [1, 3, 4, 5, 6, 0] rfl ?_
            exact jn255 _ _ _ _ _ _ _ r_hz hf
      · skip
        have hf := xif_f h210 hf
        refine mv_lpick [1, 2] rfl ?_
        exact jn213 _ _ r_hz hf
  have jn184 : ∀ (x1 : Int32) (x3 : Int32) (x4 : Int32) (x5 : Int32) (x6 : Int32) (hz : mv_H), mv_r hz = mv_r h → f_Book_statement_184 108 (f_BookS 108 nn) x1 x3 x4 x5 x6 hz = some (rv, rg) → mv_V p l e ({ frames := nn + 1 + 881, cells := 0, slots := 0, locals := 60 * (nn + 1) + 53080 }) s m ([.ref (al 108)] : List Value).toArray below meth c (mg dA D al ext) 9 0 0 (mv_Q (mg dA D al ext) below s 0 0 (mv_Ui (fun v σ1 => rv = some v ∧ rg = σ1 ∧ mv_r σ1 = mv_r h) ("MachineLoomModel$Book$Wrong", al 141) (fun σ1 => rv = none ∧ rg = σ1 ∧ mv_r σ1 = mv_r h))) hz 184 [(0, .ref (al 108)), (1, .int x1), (3, .int x3), (4, .int x4), (5, .int x5), (6, .int x6)] [] := by
    intro x1 x3 x4 x5 x6 hz r_hz hf
    unfold f_Book_statement_184 at hf
    refine mv_iconst (pc := 184) (v := -1) B d_Book_statement_184 (by decide) ?_
    refine mv_goto (pc := 185) (tgt := 194) B d_Book_statement_185 rfl ?_
    refine mv_lpick [0, 1, 2, 3, 4, 5] rfl ?_
    exact jn194 _ _ _ _ _ _ _ r_hz hf
  have jn142 : ∀ (x1 : Int32) (x2 : Int32) (x3 : Int32) (x4 : Int32) (hz : mv_H), mv_r hz = mv_r h → f_Book_statement_142 108 (f_BookS 108 nn) x1 x2 x3 x4 hz = some (rv, rg) → mv_V p l e ({ frames := nn + 1 + 881, cells := 0, slots := 0, locals := 60 * (nn + 1) + 53080 }) s m ([.ref (al 108)] : List Value).toArray below meth c (mg dA D al ext) 9 0 0 (mv_Q (mg dA D al ext) below s 0 0 (mv_Ui (fun v σ1 => rv = some v ∧ rg = σ1 ∧ mv_r σ1 = mv_r h) ("MachineLoomModel$Book$Wrong", al 141) (fun σ1 => rv = none ∧ rg = σ1 ∧ mv_r σ1 = mv_r h))) hz 142 [(0, .ref (al 108)), (1, .int x1), (2, .int x2), (3, .int x3), (4, .int x4)] [] := by
    intro x1 x2 x3 x4 hz r_hz hf
    unfold f_Book_statement_142 at hf
    refine mv_aload_n (pc := 142) B d_Book_statement_142 rfl 0 rfl ?_
    refine mv_getI (pc := 143) (ci := 12) (C := R_Book) (T := F_Book) (N := 65) B 5 rfl rfl (by decide) i_Book (B.2.2.2.1 _ k_1848) rfl d_Book_statement_143 ?_
    refine mv_istore (pc := 146) B d_Book_statement_146 (by decide) rfl ?_
    refine mv_aload_n (pc := 148) B d_Book_statement_148 rfl 1 rfl ?_
    refine mv_bipush (pc := 149) (v := 61) B d_Book_statement_149 (by decide) ?_
    obtain ⟨og14, g14, eg14, hf⟩ := xtb_e hf
    refine mv_callVUv (pc := 151) (n := 1) (ci := 12) (C := R_Book) B (mK_ok sk sv) hNs rfl rfl (ch_Book_need_y l hi _ (xrw r_hz hb) _ eg14) rfl (ma_goodc kc_Book_need) (B.2.2.2.1 _ k_2177) (B.2.2.2.1 _ k_2179) (B.2.2.2.1 _ ks_91) (B.2.2.2.1 _ k_13) ⟨by decide +kernel, by decide +kernel, by decide +kernel⟩ rfl d_Book_statement_151 rfl (Nat.le_of_ble_eq_true rfl) ⟨by first | decide | (dsimp only; omega), by first | decide | (dsimp only; omega)⟩ ⟨Nat.le_refl _, Nat.le_refl _⟩ ⟨Nat.le_refl _, Nat.le_refl _⟩ (mv_noH hno _) (fun τ9 g9 => Or.inr ⟨rfl, xth hf g9 r_hz⟩) (fun σ151 h151 => ?_)
    obtain ⟨rfl, rfl, s_g14⟩ := h151
    have hf := xt2_s hf
    have r_g14 : mv_r g14 = mv_r h := s_g14.trans r_hz
    refine mv_aload_n (pc := 154) B d_Book_statement_154 rfl 1 rfl ?_
    obtain ⟨og16, g16, eg16, hf⟩ := xtb_e hf
    refine mv_callVUi (pc := 155) (n := 0) (ci := 12) (C := R_Book) B (mK_ok sk sv) hNs rfl rfl ((rec_y l hi 868).1 _ _ _ _ (xrw r_g14 hb) eg16) rfl (ma_goodc kc_Book_expression) (B.2.2.2.1 _ k_2245) (B.2.2.2.1 _ k_2247) (B.2.2.2.1 _ ks_104) (B.2.2.2.1 _ k_13) ⟨by decide +kernel, by decide +kernel, by decide +kernel⟩ rfl d_Book_statement_155 rfl (Nat.le_of_ble_eq_true rfl) ⟨by first | decide | (dsimp only; omega), by first | decide | (dsimp only; omega)⟩ ⟨Nat.le_refl _, Nat.le_refl _⟩ ⟨Nat.le_refl _, Nat.le_refl _⟩ (mv_noH hno _) (fun τ9 g9 => Or.inr ⟨rfl, xth hf g9 r_g14⟩) (fun u17 σ155 h155 => ?_)
    obtain ⟨rfl, rfl, s_g16⟩ := h155
    have hf := xt2_s hf
    have r_g16 : mv_r g16 = mv_r h := s_g16.trans r_g14
    refine mv_istore (pc := 158) B d_Book_statement_158 (by decide) rfl ?_
    refine mv_aload_n (pc := 160) B d_Book_statement_160 rfl 2 rfl ?_
    refine mv_bipush (pc := 161) (v := 59) B d_Book_statement_161 (by decide) ?_
    obtain ⟨og18, g18, eg18, hf⟩ := xtb_e hf
    refine mv_callVUv (pc := 163) (n := 1) (ci := 12) (C := R_Book) B (mK_ok sk sv) hNs rfl rfl (ch_Book_need_y l hi _ (xrw r_g16 hb) _ eg18) rfl (ma_goodc kc_Book_need) (B.2.2.2.1 _ k_2177) (B.2.2.2.1 _ k_2179) (B.2.2.2.1 _ ks_91) (B.2.2.2.1 _ k_13) ⟨by decide +kernel, by decide +kernel, by decide +kernel⟩ rfl d_Book_statement_163 rfl (Nat.le_of_ble_eq_true rfl) ⟨by first | decide | (dsimp only; omega), by first | decide | (dsimp only; omega)⟩ ⟨Nat.le_refl _, Nat.le_refl _⟩ ⟨Nat.le_refl _, Nat.le_refl _⟩ (mv_noH hno _) (fun τ9 g9 => Or.inr ⟨rfl, xth hf g9 r_g16⟩) (fun σ163 h163 => ?_)
    obtain ⟨rfl, rfl, s_g18⟩ := h163
    have hf := xt2_s hf
    have r_g18 : mv_r g18 = mv_r h := s_g18.trans r_g16
    refine mv_aload_n (pc := 166) B d_Book_statement_166 rfl 2 rfl ?_
    refine mv_iload_n (pc := 167) B d_Book_statement_167 rfl 3 rfl ?_
    refine mv_iload_n (pc := 168) B d_Book_statement_168 rfl 4 rfl ?_
    obtain ⟨u21, g20, eg20, hf⟩ := xhb_e hf
    refine mv_callVi (pc := 169) (n := 2) (ci := 12) (C := R_Book) B (mK_ok sk sv) hNs rfl rfl (ch_Book_let_y l hi _ (xrw r_g18 hb) _ _ eg20) rfl (ma_goodc kc_Book_let) (B.2.2.2.1 _ k_2305) (B.2.2.2.1 _ k_2307) (B.2.2.2.1 _ ks_116) (B.2.2.2.1 _ k_13) ⟨by decide +kernel, by decide +kernel, by decide +kernel⟩ rfl d_Book_statement_169 rfl (Nat.le_of_ble_eq_true rfl) ⟨by first | decide | (dsimp only; omega), by first | decide | (dsimp only; omega)⟩ ⟨Nat.le_refl _, Nat.le_refl _⟩ ⟨Nat.le_refl _, Nat.le_refl _⟩ (mv_noH hno _) (fun w169 σ169 h169 => ?_)
    obtain ⟨rfl, rfl, s_g20⟩ := h169
    have r_g20 : mv_r g20 = mv_r h := s_g20.trans r_g18
    refine mv_if_ge (pc := 172) (tgt := 184) B d_Book_statement_172 rfl (fun h172 => ?_) (fun h172 => ?_)
    · skip
      have hf := xif_t h172 hf
      refine mv_lpick [2, 3, 5, 6, 1, 0] rfl ?_
      exact jn184 _ _ _ _ _ _ r_g20 hf
    · skip
      have hf := xif_f h172 hf
      refine mv_aload_n (pc := 175) B d_Book_statement_175 rfl 2 rfl ?_
      refine mv_iload_n (pc := 176) B d_Book_statement_176 rfl 3 rfl ?_
      refine mv_iload_n (pc := 177) B d_Book_statement_177 rfl 4 rfl ?_
      obtain ⟨u23, g22, eg22, hf⟩ := xhb_e hf
      refine mv_callVi (pc := 178) (n := 2) (ci := 12) (C := R_Book) B (mK_ok sk sv) hNs rfl rfl (ch_Book_isField_y l hi _ (xrw r_g20 hb) _ _ eg22) rfl (ma_goodc kc_Book_isField) (B.2.2.2.1 _ k_2309) (B.2.2.2.1 _ k_2311) (B.2.2.2.1 _ ks_117) (B.2.2.2.1 _ k_13) ⟨by decide +kernel, by decide +kernel, by decide +kernel⟩ rfl d_Book_statement_178 rfl (Nat.le_of_ble_eq_true rfl) ⟨by first | decide | (dsimp only; omega), by first | decide | (dsimp only; omega)⟩ ⟨Nat.le_refl _, Nat.le_refl _⟩ ⟨Nat.le_refl _, Nat.le_refl _⟩ (mv_noH hno _) (fun w178 σ178 h178 => ?_)
      obtain ⟨rfl, rfl, s_g22⟩ := h178
      have r_g22 : mv_r g22 = mv_r h := s_g22.trans r_g20
      refine mv_if_eq (pc := 181) (tgt := 188) B d_Book_statement_181 rfl (fun h181 => ?_) (fun h181 => ?_)
      · skip
        have hf := xif_t h181 hf
        refine mv_aload_n (pc := 188) B d_Book_statement_188 rfl 2 rfl ?_
        refine mv_iload_n (pc := 189) B d_Book_statement_189 rfl 3 rfl ?_
        refine mv_iload_n (pc := 190) B d_Book_statement_190 rfl 4 rfl ?_
        obtain ⟨u25, g24, eg24, hf⟩ := xhb_e hf
        refine mv_callVi (pc := 191) (n := 2) (ci := 12) (C := R_Book) B (mK_ok sk sv) hNs rfl rfl (ch_Book_thing_y l hi _ (xrw r_g22 hb) _ _ eg24) rfl (ma_goodc kc_Book_thing) (B.2.2.2.1 _ k_2212) (B.2.2.2.1 _ k_2214) (B.2.2.2.1 _ ks_97) (B.2.2.2.1 _ k_13) ⟨by decide +kernel, by decide +kernel, by decide +kernel⟩ rfl d_Book_statement_191 rfl (Nat.le_of_ble_eq_true rfl) ⟨by first | decide | (dsimp only; omega), by first | decide | (dsimp only; omega)⟩ ⟨Nat.le_refl _, Nat.le_refl _⟩ ⟨Nat.le_refl _, Nat.le_refl _⟩ (mv_noH hno _) (fun w191 σ191 h191 => ?_)
        obtain ⟨rfl, rfl, s_g24⟩ := h191
        have r_g24 : mv_r g24 = mv_r h := s_g24.trans r_g22
        refine mv_lpick [2, 3, 5, 6, 1, 0] rfl ?_
        exact jn194 _ _ _ _ _ _ _ r_g24 hf
      · skip
        have hf := xif_f h181 hf
        refine mv_lpick [2, 3, 5, 6, 1, 0] rfl ?_
        exact jn184 _ _ _ _ _ _ r_g22 hf
  have jn100 : ∀ (x1 : Int32) (x2 : Int32) (x3 : Int32) (y0 : Int32) (hz : mv_H), mv_r hz = mv_r h → f_Book_statement_100 108 (f_BookS 108 nn) x1 x2 x3 y0 hz = some (rv, rg) → mv_V p l e ({ frames := nn + 1 + 881, cells := 0, slots := 0, locals := 60 * (nn + 1) + 53080 }) s m ([.ref (al 108)] : List Value).toArray below meth c (mg dA D al ext) 9 0 0 (mv_Q (mg dA D al ext) below s 0 0 (mv_Ui (fun v σ1 => rv = some v ∧ rg = σ1 ∧ mv_r σ1 = mv_r h) ("MachineLoomModel$Book$Wrong", al 141) (fun σ1 => rv = none ∧ rg = σ1 ∧ mv_r σ1 = mv_r h))) hz 100 [(0, .ref (al 108)), (1, .int x1), (2, .int x2), (3, .int x3)] [.int y0] := by
    intro x1 x2 x3 y0 hz r_hz hf
    unfold f_Book_statement_100 at hf
    refine mv_istore (pc := 100) B d_Book_statement_100 (by decide) rfl ?_
    refine mv_iload (pc := 102) B d_Book_statement_102 0 rfl ?_
    refine mv_if_eq (pc := 104) (tgt := 142) B d_Book_statement_104 rfl (fun h104 => ?_) (fun h104 => ?_)
    · skip
      have hf := xif_t h104 hf
      refine mv_lpick [1, 2, 3, 4, 0] rfl ?_
      exact jn142 _ _ _ _ _ r_hz hf
    · skip
      have hf := xif_f h104 hf
      refine mv_aload_n (pc := 107) B d_Book_statement_107 rfl 1 rfl ?_
      obtain ⟨og26, g26, eg26, hf⟩ := xtb_e hf
      refine mv_callVUv (pc := 108) (n := 0) (ci := 12) (C := R_Book) B (mK_ok sk sv) hNs rfl rfl (ch_Book_pass_y l hi _ (xrw r_hz hb) eg26) rfl (ma_goodc kc_Book_pass) (B.2.2.2.1 _ k_2173) (B.2.2.2.1 _ k_2175) (B.2.2.2.1 _ ks_90) (B.2.2.2.1 _ k_13) ⟨by decide +kernel, by decide +kernel, by decide +kernel⟩ rfl d_Book_statement_108 rfl (Nat.le_of_ble_eq_true rfl) ⟨by first | decide | (dsimp only; omega), by first | decide | (dsimp only; omega)⟩ ⟨Nat.le_refl _, Nat.le_refl _⟩ ⟨Nat.le_refl _, Nat.le_refl _⟩ (mv_noH hno _) (fun τ9 g9 => Or.inr ⟨rfl, xth hf g9 r_hz⟩) (fun σ108 h108 => ?_)
      obtain ⟨rfl, rfl, s_g26⟩ := h108
      have hf := xt2_s hf
      have r_g26 : mv_r g26 = mv_r h := s_g26.trans r_hz
      refine mv_aload_n (pc := 111) B d_Book_statement_111 rfl 1 rfl ?_
      refine mv_dup (pc := 112) B d_Book_statement_112 rfl ?_
      refine mv_getI (pc := 113) (ci := 12) (C := R_Book) (T := F_Book) (N := 65) B 8 rfl rfl (by decide) i_Book (B.2.2.2.1 _ k_1851) rfl d_Book_statement_113 ?_
      refine mv_iconst (pc := 116) (v := 1) B d_Book_statement_116 (by decide) ?_
      refine mv_iadd (pc := 117) B d_Book_statement_117 ?_
      refine mv_putI (pc := 118) (ci := 12) (C := R_Book) (T := F_Book) (N := 65) B 8 rfl rfl (by decide) i_Book t_Book_ok n_Book (B.2.2.2.1 _ k_1851) rfl rfl rfl rfl d_Book_statement_118 ?_
      refine mvh_hp (R9 := mv_r h) hf r_g26 (fun g28 hf r_g28 => ?_)
      refine mv_aload_n (pc := 121) B d_Book_statement_121 rfl 1 rfl ?_
      obtain ⟨og29, g29, eg29, hf⟩ := xtb_e hf
      refine mv_callVUi (pc := 122) (n := 0) (ci := 12) (C := R_Book) B (mK_ok sk sv) hNs rfl rfl ((rec_y l hi 868).1 _ _ _ _ (xrw r_g28 hb) eg29) rfl (ma_goodc kc_Book_expression) (B.2.2.2.1 _ k_2245) (B.2.2.2.1 _ k_2247) (B.2.2.2.1 _ ks_104) (B.2.2.2.1 _ k_13) ⟨by decide +kernel, by decide +kernel, by decide +kernel⟩ rfl d_Book_statement_122 rfl (Nat.le_of_ble_eq_true rfl) ⟨by first | decide | (dsimp only; omega), by first | decide | (dsimp only; omega)⟩ ⟨Nat.le_refl _, Nat.le_refl _⟩ ⟨Nat.le_refl _, Nat.le_refl _⟩ (mv_noH hno _) (fun τ9 g9 => Or.inr ⟨rfl, xth hf g9 r_g28⟩) (fun u30 σ122 h122 => ?_)
      obtain ⟨rfl, rfl, s_g29⟩ := h122
      have hf := xt2_s hf
      have r_g29 : mv_r g29 = mv_r h := s_g29.trans r_g28
      refine mv_istore_n (pc := 125) B d_Book_statement_125 rfl (by decide) rfl ?_
      refine mv_aload_n (pc := 126) B d_Book_statement_126 rfl 2 rfl ?_
      refine mv_bipush (pc := 127) (v := 93) B d_Book_statement_127 (by decide) ?_
      obtain ⟨og31, g31, eg31, hf⟩ := xtb_e hf
      refine mv_callVUv (pc := 129) (n := 1) (ci := 12) (C := R_Book) B (mK_ok sk sv) hNs rfl rfl (ch_Book_need_y l hi _ (xrw r_g29 hb) _ eg31) rfl (ma_goodc kc_Book_need) (B.2.2.2.1 _ k_2177) (B.2.2.2.1 _ k_2179) (B.2.2.2.1 _ ks_91) (B.2.2.2.1 _ k_13) ⟨by decide +kernel, by decide +kernel, by decide +kernel⟩ rfl d_Book_statement_129 rfl (Nat.le_of_ble_eq_true rfl) ⟨by first | decide | (dsimp only; omega), by first | decide | (dsimp only; omega)⟩ ⟨Nat.le_refl _, Nat.le_refl _⟩ ⟨Nat.le_refl _, Nat.le_refl _⟩ (mv_noH hno _) (fun τ9 g9 => Or.inr ⟨rfl, xth hf g9 r_g29⟩) (fun σ129 h129 => ?_)
      obtain ⟨rfl, rfl, s_g31⟩ := h129
      have hf := xt2_s hf
      have r_g31 : mv_r g31 = mv_r h := s_g31.trans r_g29
      refine mv_aload_n (pc := 132) B d_Book_statement_132 rfl 2 rfl ?_
      refine mv_dup (pc := 133) B d_Book_statement_133 rfl ?_
      refine mv_getI (pc := 134) (ci := 12) (C := R_Book) (T := F_Book) (N := 65) B 8 rfl rfl (by decide) i_Book (B.2.2.2.1 _ k_1851) rfl d_Book_statement_134 ?_
      refine mv_iconst (pc := 137) (v := 1) B d_Book_statement_137 (by decide) ?_
      refine mv_isub (pc := 138) B d_Book_statement_138 ?_
      refine mv_putI (pc := 139) (ci := 12) (C := R_Book) (T := F_Book) (N := 65) B 8 rfl rfl (by decide) i_Book t_Book_ok n_Book (B.2.2.2.1 _ k_1851) rfl rfl rfl rfl d_Book_statement_139 ?_
      refine mvh_hp (R9 := mv_r h) hf r_g31 (fun g33 hf r_g33 => ?_)
      refine mv_lpick [2, 3, 4, 0, 1] rfl ?_
      exact jn142 _ _ _ _ _ r_g33 hf
  unfold f_Book_statement at hf
  refine mv_aload_n (pc := 0) B d_Book_statement_0 rfl 0 rfl ?_
  refine mv_ldcwS (pc := 1) B (hNs.2.1 147 (by decide)).1 d_Book_statement_1 ?_
  obtain ⟨u35, g34, eg34, hf⟩ := xhb_e hf
  refine mv_callVi (pc := 4) (n := 1) (ci := 12) (C := R_Book) B (mK_ok sk sv) hNs rfl rfl (ch_Book_is_y l hi _ (hb) _ (by decide) eg34) rfl (ma_goodc kc_Book_is) (B.2.2.2.1 _ k_2163) (B.2.2.2.1 _ k_2165) (B.2.2.2.1 _ ks_88) (B.2.2.2.1 _ k_13) ⟨by decide +kernel, by decide +kernel, by decide +kernel⟩ rfl d_Book_statement_4 rfl (Nat.le_of_ble_eq_true rfl) ⟨by first | decide | (dsimp only; omega), by first | decide | (dsimp only; omega)⟩ ⟨Nat.le_refl _, Nat.le_refl _⟩ ⟨Nat.le_refl _, Nat.le_refl _⟩ (mv_noH hno _) (fun w4 σ4 h4 => ?_)
  obtain ⟨rfl, rfl, s_g34⟩ := h4
  have r_g34 : mv_r g34 = mv_r h := s_g34.trans rfl
  refine mv_if_eq (pc := 7) (tgt := 15) B d_Book_statement_7 rfl (fun h7 => ?_) (fun h7 => ?_)
  · skip
    have hf := xif_t h7 hf
    refine mv_aload_n (pc := 15) B d_Book_statement_15 rfl 0 rfl ?_
    refine mv_ldcwS (pc := 16) B (hNs.2.1 154 (by decide)).1 d_Book_statement_16 ?_
    obtain ⟨u37, g36, eg36, hf⟩ := xhb_e hf
    refine mv_callVi (pc := 19) (n := 1) (ci := 12) (C := R_Book) B (mK_ok sk sv) hNs rfl rfl (ch_Book_is_y l hi _ (xrw r_g34 hb) _ (by decide) eg36) rfl (ma_goodc kc_Book_is) (B.2.2.2.1 _ k_2163) (B.2.2.2.1 _ k_2165) (B.2.2.2.1 _ ks_88) (B.2.2.2.1 _ k_13) ⟨by decide +kernel, by decide +kernel, by decide +kernel⟩ rfl d_Book_statement_19 rfl (Nat.le_of_ble_eq_true rfl) ⟨by first | decide | (dsimp only; omega), by first | decide | (dsimp only; omega)⟩ ⟨Nat.le_refl _, Nat.le_refl _⟩ ⟨Nat.le_refl _, Nat.le_refl _⟩ (mv_noH hno _) (fun w19 σ19 h19 => ?_)
    obtain ⟨rfl, rfl, s_g36⟩ := h19
    have r_g36 : mv_r g36 = mv_r h := s_g36.trans r_g34
    refine mv_if_eq (pc := 22) (tgt := 55) B d_Book_statement_22 rfl (fun h22 => ?_) (fun h22 => ?_)
    · skip
      have hf := xif_t h22 hf
      refine mv_aload_n (pc := 55) B d_Book_statement_55 rfl 0 rfl ?_
      refine mv_ldcwS (pc := 56) B (hNs.2.1 155 (by decide)).1 d_Book_statement_56 ?_
      obtain ⟨u39, g38, eg38, hf⟩ := xhb_e hf
      refine mv_callVi (pc := 59) (n := 1) (ci := 12) (C := R_Book) B (mK_ok sk sv) hNs rfl rfl (ch_Book_is_y l hi _ (xrw r_g36 hb) _ (by decide) eg38) rfl (ma_goodc kc_Book_is) (B.2.2.2.1 _ k_2163) (B.2.2.2.1 _ k_2165) (B.2.2.2.1 _ ks_88) (B.2.2.2.1 _ k_13) ⟨by decide +kernel, by decide +kernel, by decide +kernel⟩ rfl d_Book_statement_59 rfl (Nat.le_of_ble_eq_true rfl) ⟨by first | decide | (dsimp only; omega), by first | decide | (dsimp only; omega)⟩ ⟨Nat.le_refl _, Nat.le_refl _⟩ ⟨Nat.le_refl _, Nat.le_refl _⟩ (mv_noH hno _) (fun w59 σ59 h59 => ?_)
      obtain ⟨rfl, rfl, s_g38⟩ := h59
      have r_g38 : mv_r g38 = mv_r h := s_g38.trans r_g36
      refine mv_if_eq (pc := 62) (tgt := 70) B d_Book_statement_62 rfl (fun h62 => ?_) (fun h62 => ?_)
      · skip
        have hf := xif_t h62 hf
        refine mv_aload_n (pc := 70) B d_Book_statement_70 rfl 0 rfl ?_
        obtain ⟨og40, g40, eg40, hf⟩ := xtb_e hf
        refine mv_callVUv (pc := 71) (n := 0) (ci := 12) (C := R_Book) B (mK_ok sk sv) hNs rfl rfl (ch_Book_name_y l hi _ (xrw r_g38 hb) eg40) rfl (ma_goodc kc_Book_name) (B.2.2.2.1 _ k_2194) (B.2.2.2.1 _ k_2196) (B.2.2.2.1 _ ks_94) (B.2.2.2.1 _ k_13) ⟨by decide +kernel, by decide +kernel, by decide +kernel⟩ rfl d_Book_statement_71 rfl (Nat.le_of_ble_eq_true rfl) ⟨by first | decide | (dsimp only; omega), by first | decide | (dsimp only; omega)⟩ ⟨Nat.le_refl _, Nat.le_refl _⟩ ⟨Nat.le_refl _, Nat.le_refl _⟩ (mv_noH hno _) (fun τ9 g9 => Or.inr ⟨rfl, xth hf g9 r_g38⟩) (fun σ71 h71 => ?_)
        obtain ⟨rfl, rfl, s_g40⟩ := h71
        have hf := xt2_s hf
        have r_g40 : mv_r g40 = mv_r h := s_g40.trans r_g38
        refine mv_aload_n (pc := 74) B d_Book_statement_74 rfl 0 rfl ?_
        refine mv_getI (pc := 75) (ci := 12) (C := R_Book) (T := F_Book) (N := 65) B 49 rfl rfl (by decide) i_Book (B.2.2.2.1 _ k_1898) rfl d_Book_statement_75 ?_
        refine mv_istore_n (pc := 78) B d_Book_statement_78 rfl (by decide) rfl ?_
        refine mv_aload_n (pc := 79) B d_Book_statement_79 rfl 1 rfl ?_
        refine mv_getI (pc := 80) (ci := 12) (C := R_Book) (T := F_Book) (N := 65) B 50 rfl rfl (by decide) i_Book (B.2.2.2.1 _ k_1899) rfl d_Book_statement_80 ?_
        refine mv_istore_n (pc := 83) B d_Book_statement_83 rfl (by decide) rfl ?_
        refine mv_iconst (pc := 84) (v := -1) B d_Book_statement_84 (by decide) ?_
        refine mv_istore_n (pc := 85) B d_Book_statement_85 rfl (by decide) rfl ?_
        refine mv_aload_n (pc := 86) B d_Book_statement_86 rfl 3 rfl ?_
        refine mv_getI (pc := 87) (ci := 12) (C := R_Book) (T := F_Book) (N := 65) B 4 rfl rfl (by decide) i_Book (B.2.2.2.1 _ k_1847) rfl d_Book_statement_87 ?_
        refine mv_bipush (pc := 90) (v := 91) B d_Book_statement_90 (by decide) ?_
        refine mv_icmp_ne (pc := 92) (tgt := 99) B d_Book_statement_92 rfl (fun h92 => ?_) (fun h92 => ?_)
        · skip
          have hf := xif_f h92 hf
          refine mv_iconst (pc := 99) (v := 0) B d_Book_statement_99 (by decide) ?_
          refine mv_lpick [3, 2, 1, 0] rfl ?_
          exact jn100 _ _ _ _ _ r_g40 hf
        · skip
          have hf := xif_t h92 hf
          refine mv_iconst (pc := 95) (v := 1) B d_Book_statement_95 (by decide) ?_
          refine mv_goto (pc := 96) (tgt := 100) B d_Book_statement_96 rfl ?_
          refine mv_lpick [3, 2, 1, 0] rfl ?_
          exact jn100 _ _ _ _ _ r_g40 hf
      · skip
        have hf := xif_f h62 hf
        refine mv_aload_n (pc := 65) B d_Book_statement_65 rfl 0 rfl ?_
        obtain ⟨og42, g42, eg42, hf⟩ := xtb_e hf
        refine mv_callVUi (pc := 66) (n := 0) (ci := 12) (C := R_Book) B (mK_ok sk sv) hNs rfl rfl (ih.2.2 _ _ _ (xrw r_g38 hb) eg42) rfl (ma_goodc kc_Book_ifStatement) (B.2.2.2.1 _ k_2328) (B.2.2.2.1 _ k_2330) (B.2.2.2.1 _ ks_120) (B.2.2.2.1 _ k_13) ⟨by decide +kernel, by decide +kernel, by decide +kernel⟩ rfl d_Book_statement_66 rfl (Nat.le_of_ble_eq_true rfl) ⟨by first | decide | (dsimp only; omega), by first | decide | (dsimp only; omega)⟩ ⟨Nat.le_refl _, Nat.le_refl _⟩ ⟨Nat.le_refl _, Nat.le_refl _⟩ (mv_noH hno _) (fun τ9 g9 => Or.inr ⟨rfl, xth hf g9 r_g38⟩) (fun u43 σ66 h66 => ?_)
        obtain ⟨rfl, rfl, s_g42⟩ := h66
        have hf := xt2_s hf
        have r_g42 : mv_r g42 = mv_r h := s_g42.trans r_g38
        exact mv_iret (pc := 69) B hr rfl d_Book_statement_69 (Nat.le_refl _) (Nat.le_refl _) (Or.inl ⟨_, rfl, xrt_i hf r_g42⟩)
    · skip
      have hf := xif_f h22 hf
      refine mv_aload_n (pc := 25) B d_Book_statement_25 rfl 0 rfl ?_
      obtain ⟨og44, g44, eg44, hf⟩ := xtb_e hf
      refine mv_callVUv (pc := 26) (n := 0) (ci := 12) (C := R_Book) B (mK_ok sk sv) hNs rfl rfl (ch_Book_pass_y l hi _ (xrw r_g36 hb) eg44) rfl (ma_goodc kc_Book_pass) (B.2.2.2.1 _ k_2173) (B.2.2.2.1 _ k_2175) (B.2.2.2.1 _ ks_90) (B.2.2.2.1 _ k_13) ⟨by decide +kernel, by decide +kernel, by decide +kernel⟩ rfl d_Book_statement_26 rfl (Nat.le_of_ble_eq_true rfl) ⟨by first | decide | (dsimp only; omega), by first | decide | (dsimp only; omega)⟩ ⟨Nat.le_refl _, Nat.le_refl _⟩ ⟨Nat.le_refl _, Nat.le_refl _⟩ (mv_noH hno _) (fun τ9 g9 => Or.inr ⟨rfl, xth hf g9 r_g36⟩) (fun σ26 h26 => ?_)
      obtain ⟨rfl, rfl, s_g44⟩ := h26
      have hf := xt2_s hf
      have r_g44 : mv_r g44 = mv_r h := s_g44.trans r_g36
      refine mv_aload_n (pc := 29) B d_Book_statement_29 rfl 0 rfl ?_
      refine mv_lconst (pc := 30) (v := 1) B d_Book_statement_30 (by decide) ?_
      refine mv_ldc2 (pc := 31) (v := 1000000) B (B.2.2.2.1 _ k_2326) d_Book_statement_31 ?_
      obtain ⟨og46, g46, eg46, hf⟩ := xtb_e hf
      refine mv_callVUi (pc := 34) (n := 2) (ci := 12) (C := R_Book) B (mK_ok sk sv) hNs rfl rfl (ch_Book_ranged_y l hi _ (xrw r_g44 hb) _ _ eg46) rfl (ma_goodc kc_Book_ranged) (B.2.2.2.1 _ k_2203) (B.2.2.2.1 _ k_2205) (B.2.2.2.1 _ ks_96) (B.2.2.2.1 _ k_13) ⟨by decide +kernel, by decide +kernel, by decide +kernel⟩ rfl d_Book_statement_34 rfl (Nat.le_of_ble_eq_true rfl) ⟨by first | decide | (dsimp only; omega), by first | decide | (dsimp only; omega)⟩ ⟨Nat.le_refl _, Nat.le_refl _⟩ ⟨Nat.le_refl _, Nat.le_refl _⟩ (mv_noH hno _) (fun τ9 g9 => Or.inr ⟨rfl, xth hf g9 r_g44⟩) (fun u47 σ34 h34 => ?_)
      obtain ⟨rfl, rfl, s_g46⟩ := h34
      have hf := xt2_s hf
      have r_g46 : mv_r g46 = mv_r h := s_g46.trans r_g44
      refine mv_istore_n (pc := 37) B d_Book_statement_37 rfl (by decide) rfl ?_
      refine mv_aload_n (pc := 38) B d_Book_statement_38 rfl 1 rfl ?_
      refine mv_bipush (pc := 39) (v := 59) B d_Book_statement_39 (by decide) ?_
      obtain ⟨og48, g48, eg48, hf⟩ := xtb_e hf
      refine mv_callVUv (pc := 41) (n := 1) (ci := 12) (C := R_Book) B (mK_ok sk sv) hNs rfl rfl (ch_Book_need_y l hi _ (xrw r_g46 hb) _ eg48) rfl (ma_goodc kc_Book_need) (B.2.2.2.1 _ k_2177) (B.2.2.2.1 _ k_2179) (B.2.2.2.1 _ ks_91) (B.2.2.2.1 _ k_13) ⟨by decide +kernel, by decide +kernel, by decide +kernel⟩ rfl d_Book_statement_41 rfl (Nat.le_of_ble_eq_true rfl) ⟨by first | decide | (dsimp only; omega), by first | decide | (dsimp only; omega)⟩ ⟨Nat.le_refl _, Nat.le_refl _⟩ ⟨Nat.le_refl _, Nat.le_refl _⟩ (mv_noH hno _) (fun τ9 g9 => Or.inr ⟨rfl, xth hf g9 r_g46⟩) (fun σ41 h41 => ?_)
      obtain ⟨rfl, rfl, s_g48⟩ := h41
      have hf := xt2_s hf
      have r_g48 : mv_r g48 = mv_r h := s_g48.trans r_g46
      refine mv_aload_n (pc := 44) B d_Book_statement_44 rfl 1 rfl ?_
      refine mv_bipush (pc := 45) (v := 17) B d_Book_statement_45 (by decide) ?_
      refine mv_iload_n (pc := 47) B d_Book_statement_47 rfl 0 rfl ?_
      refine mv_iconst (pc := 48) (v := 0) B d_Book_statement_48 (by decide) ?_
      refine mv_iconst (pc := 49) (v := 0) B d_Book_statement_49 (by decide) ?_
      refine mv_iconst (pc := 50) (v := 0) B d_Book_statement_50 (by decide) ?_
      obtain ⟨u51, g50, eg50, hf⟩ := xhb_e hf
      refine mv_callVi (pc := 51) (n := 5) (ci := 12) (C := R_Book) B (mK_ok sk sv) hNs rfl rfl (ch_Book_node_y l hi _ (xrw r_g48 hb) _ _ _ _ _ eg50) rfl (ma_goodc kc_Book_node) (B.2.2.2.1 _ k_2269) (B.2.2.2.1 _ k_2271) (B.2.2.2.1 _ ks_110) (B.2.2.2.1 _ k_13) ⟨by decide +kernel, by decide +kernel, by decide +kernel⟩ rfl d_Book_statement_51 rfl (Nat.le_of_ble_eq_true rfl) ⟨by first | decide | (dsimp only; omega), by first | decide | (dsimp only; omega)⟩ ⟨Nat.le_refl _, Nat.le_refl _⟩ ⟨Nat.le_refl _, Nat.le_refl _⟩ (mv_noH hno _) (fun w51 σ51 h51 => ?_)
      obtain ⟨rfl, rfl, s_g50⟩ := h51
      have r_g50 : mv_r g50 = mv_r h := s_g50.trans r_g48
      exact mv_iret (pc := 54) B hr rfl d_Book_statement_54 (Nat.le_refl _) (Nat.le_refl _) (Or.inl ⟨_, rfl, xrt_i hf r_g50⟩)
  · skip
    have hf := xif_f h7 hf
    refine mv_aload_n (pc := 10) B d_Book_statement_10 rfl 0 rfl ?_
    obtain ⟨og52, g52, eg52, hf⟩ := xtb_e hf
    refine mv_callVUi (pc := 11) (n := 0) (ci := 12) (C := R_Book) B (mK_ok sk sv) hNs rfl rfl (ch_Book_letStatement_y l hi _ (xrw r_g34 hb) eg52) rfl (ma_goodc kc_Book_letStatement) (B.2.2.2.1 _ k_2241) (B.2.2.2.1 _ k_2243) (B.2.2.2.1 _ ks_103) (B.2.2.2.1 _ k_13) ⟨by decide +kernel, by decide +kernel, by decide +kernel⟩ rfl d_Book_statement_11 rfl (Nat.le_of_ble_eq_true rfl) ⟨by first | decide | (dsimp only; omega), by first | decide | (dsimp only; omega)⟩ ⟨Nat.le_refl _, Nat.le_refl _⟩ ⟨Nat.le_refl _, Nat.le_refl _⟩ (mv_noH hno _) (fun τ9 g9 => Or.inr ⟨rfl, xth hf g9 r_g34⟩) (fun u53 σ11 h11 => ?_)
    obtain ⟨rfl, rfl, s_g52⟩ := h11
    have hf := xt2_s hf
    have r_g52 : mv_r g52 = mv_r h := s_g52.trans r_g34
    exact mv_iret (pc := 14) B hr rfl d_Book_statement_14 (Nat.le_refl _) (Nat.le_refl _) (Or.inl ⟨_, rfl, xrt_i hf r_g52⟩)
set_option maxHeartbeats 4000000 in
set_option maxRecDepth 100000 in
theorem cr_Book_ifStatement_y (l : Launch) {dA : FieldType → ClassId} {D : va_G} {al : Nat → Nat} {ext : mv_Sh} {sk sv : Nat → Nat} (hi : mv_inj (mg dA D al ext)) (nn : Nat) (ih : RecS l dA D al ext sk sv 108 nn) (h : mv_H) (hb : Br 108 (mv_r h))  {rv : Option Int32} {rg : mv_H} (hf : f_Book_ifStatement 108 (f_BookS 108 nn) h = some (rv, rg)) : mv_C l y_Book_ifStatement (Cond.code y_Book_ifStatement b_Book_ifStatement 7 (Option.some Jvm.ClassFile.FieldType.int) :: ma) ({ frames := nn + 1 + 881, cells := 0, slots := 0, locals := 60 * (nn + 1) + 53080 }) (mg dA D al ext) (mK sk sv) [.ref (al 108)] h (mv_Ui (fun v σ1 => rv = some v ∧ rg = σ1 ∧ mv_r σ1 = mv_r h) ("MachineLoomModel$Book$Wrong", al 141) (fun σ1 => rv = none ∧ rg = σ1 ∧ mv_r σ1 = mv_r h)) := by
  refine mv_C.ofV (cc := b_Book_ifStatement) (nL := 7) (ret := (Option.some Jvm.ClassFile.FieldType.int)) (by decide +kernel) rfl hi (Nat.le_of_ble_eq_true rfl) ?_
  intro p e s m below meth c B hNs hr hnm hno
  have lp4 : ∀ (nn4 : Nat) (x1 : Int32) (x2 : Int32) (hz : mv_H), mv_r hz = mv_r h → f_Book_ifStatement_4 108 (f_BookS 108 nn) nn4 x1 x2 hz = some (rv, rg) → mv_V p l e ({ frames := nn + 1 + 881, cells := 0, slots := 0, locals := 60 * (nn + 1) + 53080 }) s m ([.ref (al 108)] : List Value).toArray below meth c (mg dA D al ext) 7 0 0 (mv_Q (mg dA D al ext) below s 0 0 (mv_Ui (fun v σ1 => rv = some v ∧ rg = σ1 ∧ mv_r σ1 = mv_r h) ("MachineLoomModel$Book$Wrong", al 141) (fun σ1 => rv = none ∧ rg = σ1 ∧ mv_r σ1 = mv_r h))) hz 4 [(0, .ref (al 108)), (1, .int x1), (2, .int x2)] [] := by
    intro nn4
    induction nn4 with
    | zero => intro x1 x2 hz r_hz hf; cases hf
    | succ nn4 ih4 =>
      intro x1 x2 hz r_hz hf
      have jn81 : ∀ (x1 : Int32) (x6 : Int32) (hz : mv_H), mv_r hz = mv_r h → f_Book_ifStatement_81 108 (f_BookS 108 nn) (f_Book_ifStatement_4 108 (f_BookS 108 nn) nn4) x1 x6 hz = some (rv, rg) → mv_V p l e ({ frames := nn + 1 + 881, cells := 0, slots := 0, locals := 60 * (nn + 1) + 53080 }) s m ([.ref (al 108)] : List Value).toArray below meth c (mg dA D al ext) 7 0 0 (mv_Q (mg dA D al ext) below s 0 0 (mv_Ui (fun v σ1 => rv = some v ∧ rg = σ1 ∧ mv_r σ1 = mv_r h) ("MachineLoomModel$Book$Wrong", al 141) (fun σ1 => rv = none ∧ rg = σ1 ∧ mv_r σ1 = mv_r h))) hz 81 [(0, .ref (al 108)), (1, .int x1), (6, .int x6)] [] := by
        intro x1 x6 hz r_hz hf
        unfold f_Book_ifStatement_81 at hf
        refine mv_iload (pc := 81) B d_Book_ifStatement_81 2 rfl ?_
        refine mv_istore_n (pc := 83) B d_Book_ifStatement_83 rfl (by decide) rfl ?_
        refine mv_aload_n (pc := 84) B d_Book_ifStatement_84 rfl 1 rfl ?_
        refine mv_ldcwS (pc := 85) B (hNs.2.1 156 (by decide)).1 d_Book_ifStatement_85 ?_
        obtain ⟨u2, g1, eg1, hf⟩ := xhb_e hf
        refine mv_callVi (pc := 88) (n := 1) (ci := 12) (C := R_Book) B (mK_ok sk sv) hNs rfl rfl (ch_Book_is_y l hi _ (xrw r_hz hb) _ (by decide) eg1) rfl (ma_goodc kc_Book_is) (B.2.2.2.1 _ k_2163) (B.2.2.2.1 _ k_2165) (B.2.2.2.1 _ ks_88) (B.2.2.2.1 _ k_13) ⟨by decide +kernel, by decide +kernel, by decide +kernel⟩ rfl d_Book_ifStatement_88 rfl (Nat.le_of_ble_eq_true rfl) ⟨by first | decide | (dsimp only; omega), by first | decide | (dsimp only; omega)⟩ ⟨Nat.le_refl _, Nat.le_refl _⟩ ⟨Nat.le_refl _, Nat.le_refl _⟩ (mv_noH hno _) (fun w88 σ88 h88 => ?_)
        obtain ⟨rfl, rfl, s_g1⟩ := h88
        have r_g1 : mv_r g1 = mv_r h := s_g1.trans r_hz
        refine mv_if_ne (pc := 91) (tgt := 96) B d_Book_ifStatement_91 rfl (fun h91 => ?_) (fun h91 => ?_)
        · skip
          have hf := xif_f h91 hf
          refine mv_aload_n (pc := 96) B d_Book_ifStatement_96 rfl 1 rfl ?_
          obtain ⟨og3, g3, eg3, hf⟩ := xtb_e hf
          refine mv_callVUv (pc := 97) (n := 0) (ci := 12) (C := R_Book) B (mK_ok sk sv) hNs rfl rfl (ch_Book_pass_y l hi _ (xrw r_g1 hb) eg3) rfl (ma_goodc kc_Book_pass) (B.2.2.2.1 _ k_2173) (B.2.2.2.1 _ k_2175) (B.2.2.2.1 _ ks_90) (B.2.2.2.1 _ k_13) ⟨by decide +kernel, by decide +kernel, by decide +kernel⟩ rfl d_Book_ifStatement_97 rfl (Nat.le_of_ble_eq_true rfl) ⟨by first | decide | (dsimp only; omega), by first | decide | (dsimp only; omega)⟩ ⟨Nat.le_refl _, Nat.le_refl _⟩ ⟨Nat.le_refl _, Nat.le_refl _⟩ (mv_noH hno _) (fun τ9 g9 => Or.inr ⟨rfl, xth hf g9 r_g1⟩) (fun σ97 h97 => ?_)
          obtain ⟨rfl, rfl, s_g3⟩ := h97
          have hf := xt2_s hf
          have r_g3 : mv_r g3 = mv_r h := s_g3.trans r_g1
          refine mv_aload_n (pc := 100) B d_Book_ifStatement_100 rfl 1 rfl ?_
          refine mv_ldcwS (pc := 101) B (hNs.2.1 155 (by decide)).1 d_Book_ifStatement_101 ?_
          obtain ⟨u6, g5, eg5, hf⟩ := xhb_e hf
          refine mv_callVi (pc := 104) (n := 1) (ci := 12) (C := R_Book) B (mK_ok sk sv) hNs rfl rfl (ch_Book_is_y l hi _ (xrw r_g3 hb) _ (by decide) eg5) rfl (ma_goodc kc_Book_is) (B.2.2.2.1 _ k_2163) (B.2.2.2.1 _ k_2165) (B.2.2.2.1 _ ks_88) (B.2.2.2.1 _ k_13) ⟨by decide +kernel, by decide +kernel, by decide +kernel⟩ rfl d_Book_ifStatement_104 rfl (Nat.le_of_ble_eq_true rfl) ⟨by first | decide | (dsimp only; omega), by first | decide | (dsimp only; omega)⟩ ⟨Nat.le_refl _, Nat.le_refl _⟩ ⟨Nat.le_refl _, Nat.le_refl _⟩ (mv_noH hno _) (fun w104 σ104 h104 => ?_)
          obtain ⟨rfl, rfl, s_g5⟩ := h104
          have r_g5 : mv_r g5 = mv_r h := s_g5.trans r_g3
          refine mv_if_eq (pc := 107) (tgt := 113) B d_Book_ifStatement_107 rfl (fun h107 => ?_) (fun h107 => ?_)
          · skip
            have hf := xif_t h107 hf
            refine mv_aload_n (pc := 113) B d_Book_ifStatement_113 rfl 1 rfl ?_
            refine mv_getR (pc := 114) (ci := 12) (C := R_Book) (T := F_Book) (N := 65) B 43 rfl rfl (by decide) i_Book (B.2.2.2.1 _ k_1892) rfl ((congrFun (congrFun r_g5 108) 43).trans (hb.1 108 43 _ rfl)) d_Book_ifStatement_114 ?_
            refine mv_iload_n (pc := 117) B d_Book_ifStatement_117 rfl 0 rfl ?_
            refine mv_aload_n (pc := 118) B d_Book_ifStatement_118 rfl 1 rfl ?_
            obtain ⟨og7, g7, eg7, hf⟩ := xtb_e hf
            refine mv_callVUi (pc := 119) (n := 0) (ci := 12) (C := R_Book) B (mK_ok sk sv) hNs rfl rfl (ih.1 _ _ _ (xrw r_g5 hb) eg7) rfl (ma_goodc kc_Book_block) (B.2.2.2.1 _ k_2232) (B.2.2.2.1 _ k_2234) (B.2.2.2.1 _ ks_101) (B.2.2.2.1 _ k_13) ⟨by decide +kernel, by decide +kernel, by decide +kernel⟩ rfl d_Book_ifStatement_119 rfl (Nat.le_of_ble_eq_true rfl) ⟨by first | decide | (dsimp only; omega), by first | decide | (dsimp only; omega)⟩ ⟨Nat.le_refl _, Nat.le_refl _⟩ ⟨Nat.le_refl _, Nat.le_refl _⟩ (mv_noH hno _) (fun τ9 g9 => Or.inr ⟨rfl, xth hf g9 r_g5⟩) (fun u8 σ119 h119 => ?_)
            obtain ⟨rfl, rfl, s_g7⟩ := h119
            have hf := xt2_s hf
            have r_g7 : mv_r g7 = mv_r h := s_g7.trans r_g5
            obtain ⟨q9, hf⟩ := xvi_e hf
            refine mv_iast (pc := 122) B rfl q9 d_Book_ifStatement_122 ?_
            refine mvh_hp (R9 := mv_r h) hf r_g7 (fun g10 hf r_g10 => ?_)
            refine mv_iload_n (pc := 123) B d_Book_ifStatement_123 rfl 2 rfl ?_
            exact mv_iret (pc := 124) B hr rfl d_Book_ifStatement_124 (Nat.le_refl _) (Nat.le_refl _) (Or.inl ⟨_, rfl, xrt_i hf r_g10⟩)
          · skip
            have hf := xif_f h107 hf
            refine mv_goto (pc := 110) (tgt := 4) B d_Book_ifStatement_110 rfl ?_
            refine mv_lpick [1, 2, 0] rfl ?_
            exact ih4 _ _ _ r_g5 hf
        · skip
          have hf := xif_t h91 hf
          refine mv_iload_n (pc := 94) B d_Book_ifStatement_94 rfl 2 rfl ?_
          exact mv_iret (pc := 95) B hr rfl d_Book_ifStatement_95 (Nat.le_refl _) (Nat.le_refl _) (Or.inl ⟨_, rfl, xrt_i hf r_g1⟩)
      have jn36 : ∀ (x1 : Int32) (x2 : Int32) (x4 : Int32) (hz : mv_H), mv_r hz = mv_r h → f_Book_ifStatement_36 108 (f_BookS 108 nn) (f_Book_ifStatement_4 108 (f_BookS 108 nn) nn4) x1 x2 x4 hz = some (rv, rg) → mv_V p l e ({ frames := nn + 1 + 881, cells := 0, slots := 0, locals := 60 * (nn + 1) + 53080 }) s m ([.ref (al 108)] : List Value).toArray below meth c (mg dA D al ext) 7 0 0 (mv_Q (mg dA D al ext) below s 0 0 (mv_Ui (fun v σ1 => rv = some v ∧ rg = σ1 ∧ mv_r σ1 = mv_r h) ("MachineLoomModel$Book$Wrong", al 141) (fun σ1 => rv = none ∧ rg = σ1 ∧ mv_r σ1 = mv_r h))) hz 36 [(0, .ref (al 108)), (1, .int x1), (2, .int x2), (4, .int x4)] [] := by
        intro x1 x2 x4 hz r_hz hf
        unfold f_Book_ifStatement_36 at hf
        refine mv_aload_n (pc := 36) B d_Book_ifStatement_36 rfl 0 rfl ?_
        obtain ⟨og11, g11, eg11, hf⟩ := xtb_e hf
        refine mv_callVUi (pc := 37) (n := 0) (ci := 12) (C := R_Book) B (mK_ok sk sv) hNs rfl rfl (ih.1 _ _ _ (xrw r_hz hb) eg11) rfl (ma_goodc kc_Book_block) (B.2.2.2.1 _ k_2232) (B.2.2.2.1 _ k_2234) (B.2.2.2.1 _ ks_101) (B.2.2.2.1 _ k_13) ⟨by decide +kernel, by decide +kernel, by decide +kernel⟩ rfl d_Book_ifStatement_37 rfl (Nat.le_of_ble_eq_true rfl) ⟨by first | decide | (dsimp only; omega), by first | decide | (dsimp only; omega)⟩ ⟨Nat.le_refl _, Nat.le_refl _⟩ ⟨Nat.le_refl _, Nat.le_refl _⟩ (mv_noH hno _) (fun τ9 g9 => Or.inr ⟨rfl, xth hf g9 r_hz⟩) (fun u12 σ37 h37 => ?_)
        obtain ⟨rfl, rfl, s_g11⟩ := h37
        have hf := xt2_s hf
        have r_g11 : mv_r g11 = mv_r h := s_g11.trans r_hz
        refine mv_istore (pc := 40) B d_Book_ifStatement_40 (by decide) rfl ?_
        refine mv_aload_n (pc := 42) B d_Book_ifStatement_42 rfl 1 rfl ?_
        refine mv_bipush (pc := 43) (v := 18) B d_Book_ifStatement_43 (by decide) ?_
        refine mv_iload (pc := 45) B d_Book_ifStatement_45 4 rfl ?_
        refine mv_iload (pc := 47) B d_Book_ifStatement_47 0 rfl ?_
        refine mv_iconst (pc := 49) (v := -1) B d_Book_ifStatement_49 (by decide) ?_
        refine mv_iconst (pc := 50) (v := 0) B d_Book_ifStatement_50 (by decide) ?_
        obtain ⟨u14, g13, eg13, hf⟩ := xhb_e hf
        refine mv_callVi (pc := 51) (n := 5) (ci := 12) (C := R_Book) B (mK_ok sk sv) hNs rfl rfl (ch_Book_node_y l hi _ (xrw r_g11 hb) _ _ _ _ _ eg13) rfl (ma_goodc kc_Book_node) (B.2.2.2.1 _ k_2269) (B.2.2.2.1 _ k_2271) (B.2.2.2.1 _ ks_110) (B.2.2.2.1 _ k_13) ⟨by decide +kernel, by decide +kernel, by decide +kernel⟩ rfl d_Book_ifStatement_51 rfl (Nat.le_of_ble_eq_true rfl) ⟨by first | decide | (dsimp only; omega), by first | decide | (dsimp only; omega)⟩ ⟨Nat.le_refl _, Nat.le_refl _⟩ ⟨Nat.le_refl _, Nat.le_refl _⟩ (mv_noH hno _) (fun w51 σ51 h51 => ?_)
        obtain ⟨rfl, rfl, s_g13⟩ := h51
        have r_g13 : mv_r g13 = mv_r h := s_g13.trans r_g11
        refine mv_istore (pc := 54) B d_Book_ifStatement_54 (by decide) rfl ?_
        refine mv_iload_n (pc := 56) B d_Book_ifStatement_56 rfl 4 rfl ?_
        refine mv_if_ge (pc := 57) (tgt := 66) B d_Book_ifStatement_57 rfl (fun h57 => ?_) (fun h57 => ?_)
        · skip
          have hf := xif_t h57 hf
          refine mv_aload_n (pc := 66) B d_Book_ifStatement_66 rfl 2 rfl ?_
          refine mv_getR (pc := 67) (ci := 12) (C := R_Book) (T := F_Book) (N := 65) B 43 rfl rfl (by decide) i_Book (B.2.2.2.1 _ k_1892) rfl ((congrFun (congrFun r_g13 108) 43).trans (hb.1 108 43 _ rfl)) d_Book_ifStatement_67 ?_
          refine mv_iload_n (pc := 70) B d_Book_ifStatement_70 rfl 4 rfl ?_
          refine mv_iload (pc := 71) B d_Book_ifStatement_71 0 rfl ?_
          obtain ⟨q15, hf⟩ := xvi_e hf
          refine mv_iast (pc := 73) B rfl q15 d_Book_ifStatement_73 ?_
          refine mvh_hp (R9 := mv_r h) hf r_g13 (fun g16 hf r_g16 => ?_)
          refine mv_aload_n (pc := 74) B d_Book_ifStatement_74 rfl 2 rfl ?_
          refine mv_getR (pc := 75) (ci := 12) (C := R_Book) (T := F_Book) (N := 65) B 47 rfl rfl (by decide) i_Book (B.2.2.2.1 _ k_1896) rfl ((congrFun (congrFun r_g16 108) 47).trans (hb.1 108 47 _ rfl)) d_Book_ifStatement_75 ?_
          refine mv_iload_n (pc := 78) B d_Book_ifStatement_78 rfl 4 rfl ?_
          refine mv_iconst (pc := 79) (v := 1) B d_Book_ifStatement_79 (by decide) ?_
          obtain ⟨q17, hf⟩ := xvi_e hf
          refine mv_zast (pc := 80) B rfl q17 d_Book_ifStatement_80 ?_
          refine mvh_hp (R9 := mv_r h) hf r_g16 (fun g18 hf r_g18 => ?_)
          refine mv_lpick [2, 3, 0] rfl ?_
          exact jn81 _ _ _ r_g18 hf
        · skip
          have hf := xif_f h57 hf
          refine mv_iload (pc := 60) B d_Book_ifStatement_60 0 rfl ?_
          refine mv_istore_n (pc := 62) B d_Book_ifStatement_62 rfl (by decide) rfl ?_
          refine mv_goto (pc := 63) (tgt := 81) B d_Book_ifStatement_63 rfl ?_
          refine mv_lpick [3, 0, 1] rfl ?_
          exact jn81 _ _ _ r_g13 hf
      have hf : fF_Book_ifStatement_4 108 (f_BookS 108 nn) (f_Book_ifStatement_4 108 (f_BookS 108 nn) nn4) x1 x2 hz = some (rv, rg) := hf
      unfold fF_Book_ifStatement_4 at hf
      refine mv_aload_n (pc := 4) B d_Book_ifStatement_4 rfl 0 rfl ?_
      refine mv_getI (pc := 5) (ci := 12) (C := R_Book) (T := F_Book) (N := 65) B 5 rfl rfl (by decide) i_Book (B.2.2.2.1 _ k_1848) rfl d_Book_ifStatement_5 ?_
      refine mv_istore_n (pc := 8) B d_Book_ifStatement_8 rfl (by decide) rfl ?_
      refine mv_aload_n (pc := 9) B d_Book_ifStatement_9 rfl 1 rfl ?_
      obtain ⟨og19, g19, eg19, hf⟩ := xtb_e hf
      refine mv_callVUv (pc := 10) (n := 0) (ci := 12) (C := R_Book) B (mK_ok sk sv) hNs rfl rfl (ch_Book_pass_y l hi _ (xrw r_hz hb) eg19) rfl (ma_goodc kc_Book_pass) (B.2.2.2.1 _ k_2173) (B.2.2.2.1 _ k_2175) (B.2.2.2.1 _ ks_90) (B.2.2.2.1 _ k_13) ⟨by decide +kernel, by decide +kernel, by decide +kernel⟩ rfl d_Book_ifStatement_10 rfl (Nat.le_of_ble_eq_true rfl) ⟨by first | decide | (dsimp only; omega), by first | decide | (dsimp only; omega)⟩ ⟨Nat.le_refl _, Nat.le_refl _⟩ ⟨Nat.le_refl _, Nat.le_refl _⟩ (mv_noH hno _) (fun τ9 g9 => Or.inr ⟨rfl, xth hf g9 r_hz⟩) (fun σ10 h10 => ?_)
      obtain ⟨rfl, rfl, s_g19⟩ := h10
      have hf := xt2_s hf
      have r_g19 : mv_r g19 = mv_r h := s_g19.trans r_hz
      refine mv_aload_n (pc := 13) B d_Book_ifStatement_13 rfl 1 rfl ?_
      obtain ⟨og21, g21, eg21, hf⟩ := xtb_e hf
      refine mv_callVUi (pc := 14) (n := 0) (ci := 12) (C := R_Book) B (mK_ok sk sv) hNs rfl rfl ((rec_y l hi 868).1 _ _ _ _ (xrw r_g19 hb) eg21) rfl (ma_goodc kc_Book_expression) (B.2.2.2.1 _ k_2245) (B.2.2.2.1 _ k_2247) (B.2.2.2.1 _ ks_104) (B.2.2.2.1 _ k_13) ⟨by decide +kernel, by decide +kernel, by decide +kernel⟩ rfl d_Book_ifStatement_14 rfl (Nat.le_of_ble_eq_true rfl) ⟨by first | decide | (dsimp only; omega), by first | decide | (dsimp only; omega)⟩ ⟨Nat.le_refl _, Nat.le_refl _⟩ ⟨Nat.le_refl _, Nat.le_refl _⟩ (mv_noH hno _) (fun τ9 g9 => Or.inr ⟨rfl, xth hf g9 r_g19⟩) (fun u22 σ14 h14 => ?_)
      obtain ⟨rfl, rfl, s_g21⟩ := h14
      have hf := xt2_s hf
      have r_g21 : mv_r g21 = mv_r h := s_g21.trans r_g19
      refine mv_istore (pc := 17) B d_Book_ifStatement_17 (by decide) rfl ?_
      refine mv_aload_n (pc := 19) B d_Book_ifStatement_19 rfl 2 rfl ?_
      refine mv_getR (pc := 20) (ci := 12) (C := R_Book) (T := F_Book) (N := 65) B 45 rfl rfl (by decide) i_Book (B.2.2.2.1 _ k_1894) rfl ((congrFun (congrFun r_g21 108) 45).trans (hb.1 108 45 _ rfl)) d_Book_ifStatement_20 ?_
      refine mv_iload (pc := 23) B d_Book_ifStatement_23 0 rfl ?_
      obtain ⟨q23, hf⟩ := xvi_e hf
      refine mv_iald (pc := 25) B rfl q23 d_Book_ifStatement_25 ?_
      refine mv_iconst (pc := 26) (v := 1) B d_Book_ifStatement_26 (by decide) ?_
      refine mv_icmp_le (pc := 27) (tgt := 36) B d_Book_ifStatement_27 rfl (fun h27 => ?_) (fun h27 => ?_)
      · skip
        have hf := xif_t h27 hf
        refine mv_lpick [2, 3, 4, 0] rfl ?_
        exact jn36 _ _ _ _ r_g21 hf
      · skip
        have hf := xif_f h27 hf
        refine mv_aload_n (pc := 30) B d_Book_ifStatement_30 rfl 2 rfl ?_
        refine mv_iconst (pc := 31) (v := 4) B d_Book_ifStatement_31 (by decide) ?_
        refine mv_iload_n (pc := 32) B d_Book_ifStatement_32 rfl 1 rfl ?_
        obtain ⟨g24, eg24, hf⟩ := xhv_e hf
        refine mv_callVv (pc := 33) (n := 2) (ci := 12) (C := R_Book) B (mK_ok sk sv) hNs rfl rfl (ch_Book_fault_y l hi _ _ _ eg24) rfl (ma_goodc kc_Book_fault) (B.2.2.2.1 _ k_2185) (B.2.2.2.1 _ k_2187) (B.2.2.2.1 _ ks_92) (B.2.2.2.1 _ k_13) ⟨by decide +kernel, by decide +kernel, by decide +kernel⟩ rfl d_Book_ifStatement_33 rfl (Nat.le_of_ble_eq_true rfl) ⟨by first | decide | (dsimp only; omega), by first | decide | (dsimp only; omega)⟩ ⟨Nat.le_refl _, Nat.le_refl _⟩ ⟨Nat.le_refl _, Nat.le_refl _⟩ (mv_noH hno _) (fun σ33 h33 => ?_)
        obtain ⟨rfl, s_g24⟩ := h33
        have r_g24 : mv_r g24 = mv_r h := s_g24.trans r_g21
        refine mv_lpick [2, 3, 4, 0] rfl ?_
        exact jn36 _ _ _ _ r_g24 hf
  unfold f_Book_ifStatement at hf
  refine mv_iconst (pc := 0) (v := -1) B d_Book_ifStatement_0 (by decide) ?_
  refine mv_istore_n (pc := 1) B d_Book_ifStatement_1 rfl (by decide) rfl ?_
  refine mv_iconst (pc := 2) (v := -1) B d_Book_ifStatement_2 (by decide) ?_
  refine mv_istore_n (pc := 3) B d_Book_ifStatement_3 rfl (by decide) rfl ?_
  refine mv_lpick [2, 1, 0] rfl ?_
  exact lp4 _ _ _ _ rfl hf
theorem rec2_0y (l : Launch) {dA : FieldType → ClassId} {D : va_G} {al : Nat → Nat} {ext : mv_Sh} {sk sv : Nat → Nat} (hi : mv_inj (mg dA D al ext)) : RecS l dA D al ext sk sv 108 0 := ⟨(fun h rv rg hb hf => by cases hf), (fun h rv rg hb hf => by cases hf), (fun h rv rg hb hf => by cases hf)⟩
theorem rec2_1y (l : Launch) {dA : FieldType → ClassId} {D : va_G} {al : Nat → Nat} {ext : mv_Sh} {sk sv : Nat → Nat} (hi : mv_inj (mg dA D al ext)) (nn : Nat) (ih : RecS l dA D al ext sk sv 108 nn) : RecS l dA D al ext sk sv 108 (nn + 1) := ⟨(fun h rv rg hb hf => cr_Book_block_y l hi nn ih h hb (by rw [f_BookS] at hf; exact hf)), (fun h rv rg hb hf => cr_Book_statement_y l hi nn ih h hb (by rw [f_BookS] at hf; exact hf)), (fun h rv rg hb hf => cr_Book_ifStatement_y l hi nn ih h hb (by rw [f_BookS] at hf; exact hf))⟩
theorem rec2_y (l : Launch) {dA : FieldType → ClassId} {D : va_G} {al : Nat → Nat} {ext : mv_Sh} {sk sv : Nat → Nat} (hi : mv_inj (mg dA D al ext)) : ∀ nn, RecS l dA D al ext sk sv 108 nn := by
  intro nn
  induction nn with
  | zero => exact rec2_0y l hi
  | succ nn ih => exact rec2_1y l hi nn ih
def f_Book_operation_221 (P : Nat) (x1 : Int32) (x2 : Int32) (x5 : Int32) (x7 : Int32) (hz : mv_H) : Option (Option Int32 × mv_H) := xk (mv_si hz P 35 (0 : Int32)) fun g1 => xk (mv_si g1 P 36 (0 : Int32)) fun g2 => xtb (f_BookS P 200 0 g2) fun u4 g3 => bif xvi x7 4100 then xk (mv_sa g3 (P + 11) (x7).toNatClampNeg u4) fun g6 => bif xvi x7 4100 then xk (mv_sa g6 (P + 8) (x7).toNatClampNeg x1) fun g8 => bif xvi x7 4100 then xk (mv_sa g8 (P + 9) (x7).toNatClampNeg x2) fun g10 => if x5 = (0 : Int32) then (xk (mv_si g10 P 51 (mv_i g10 P 30)) fun g11 => xk (mv_si g11 P 29 ((mv_i g11 P 29) + (1 : Int32))) fun g12 => some (some 0, g12)) else (some (some 0, g10)) else none else none else none
def fF_Book_operation_154 (P : Nat) (k154 : Int32 → Int32 → Int32 → Int32 → Int32 → Int32 → Int32 → Int32 → mv_H → Option (Option Int32 × mv_H)) (x1 : Int32) (x2 : Int32) (x3 : Int32) (x4 : Int32) (x5 : Int32) (x6 : Int32) (x7 : Int32) (x8 : Int32) (hz : mv_H) : Option (Option Int32 × mv_H) := if x6 ≤ x8 then (xk (mv_si hz P 30 (((mv_i hz P 51) + x6) - x4)) fun g13 => if (x6 - x4) = (mv_i g13 P 20) then (f_Book_operation_221 P x1 x2 x5 x7 g13) else (xhv (f_Book_fault P g13 (5 : Int32) x3) fun g14 => f_Book_operation_221 P x1 x2 x5 x7 g14)) else (bif xvi x8 32768 then bif xvi (((mv_i hz P 51) + x8) - x4) 32768 then xk (mv_sa hz (P + 13) ((((mv_i hz P 51) + x8) - x4)).toNatClampNeg (vp_nar .byte (mv_a hz 71 (x8).toNatClampNeg))) fun g18 => k154 x1 x2 x3 x4 x5 x6 x7 (x8 + 1) g18 else none else none)
def f_Book_operation_154 (P : Nat) : Nat → Int32 → Int32 → Int32 → Int32 → Int32 → Int32 → Int32 → Int32 → mv_H → Option (Option Int32 × mv_H)
  | 0 => fun _ _ _ _ _ _ _ _ _ => none
  | nn + 1 => fF_Book_operation_154 P (f_Book_operation_154 P nn)
def f_Book_operation_108 (P : Nat) (x1 : Int32) (x2 : Int32) (x3 : Int32) (x4 : Int32) (x5 : Int32) (hz : mv_H) : Option (Option Int32 × mv_H) := xtb (f_Book_need P hz (3 : Int32)) fun u20 g19 => bif xvi (mv_i g19 P 29) 4100 then xk (mv_sa g19 (P + 10) ((mv_i g19 P 29)).toNatClampNeg (mv_i g19 P 51)) fun g22 => bif xvi (mv_i g19 P 29) 4100 then xk (mv_sa g22 (P + 12) ((mv_i g19 P 29)).toNatClampNeg (((mv_i hz P 6) - (1 : Int32)) - x4)) fun g24 => f_Book_operation_154 P 200000 x1 x2 x3 x4 x5 ((mv_i hz P 6) - (1 : Int32)) (mv_i g19 P 29) x4 g24 else none else none
def fF_Book_operation_37 (P : Nat) (k37 : Int32 → Int32 → Int32 → Int32 → Int32 → Int32 → mv_H → Option (Option Int32 × mv_H)) (x1 : Int32) (x2 : Int32) (x3 : Int32) (x4 : Int32) (x5 : Int32) (x6 : Int32) (hz : mv_H) : Option (Option Int32 × mv_H) := if (mv_i hz P 29) ≤ x6 then (if x5 = (0 : Int32) then (if (mv_i hz P 29) < (512 : Int32) then (f_Book_operation_108 P x1 x2 x3 x4 x5 hz) else (xhv (f_Book_fault P hz (6 : Int32) x1) fun g25 => f_Book_operation_108 P x1 x2 x3 x4 x5 g25)) else (xhv (f_Book_fault P hz (2 : Int32) x1) fun g27 => f_Book_operation_108 P x1 x2 x3 x4 x5 g27)) else (bif xvi x6 4100 then bif xvi x6 4100 then xhb (f_Book_same P hz (mv_a hz (P + 8) (x6).toNatClampNeg) (mv_a hz (P + 9) (x6).toNatClampNeg) x1 x2) fun u32 g31 => k37 x1 x2 x3 x4 (x5 ||| u32) (x6 + 1) g31 else none else none)
def f_Book_operation_37 (P : Nat) : Nat → Int32 → Int32 → Int32 → Int32 → Int32 → Int32 → mv_H → Option (Option Int32 × mv_H)
  | 0 => fun _ _ _ _ _ _ _ => none
  | nn + 1 => fF_Book_operation_37 P (f_Book_operation_37 P nn)
def f_Book_operation (P : Nat) (h : mv_H) : Option (Option Int32 × mv_H) := xtb (f_Book_pass P h) fun u34 g33 => xtb (f_Book_name P g33) fun u36 g35 => f_Book_operation_37 P 200000 (mv_i g35 P 49) (mv_i g35 P 50) (mv_i g35 P 5) ((mv_i g35 P 5) + (1 : Int32)) (0 : Int32) (0 : Int32) g35
set_option maxHeartbeats 4000000 in
set_option maxRecDepth 100000 in
theorem ch_Book_operation_x (l : Launch) {dA : FieldType → ClassId} {D : va_G} {al : Nat → Nat} {ext : mv_Sh} {sk sv : Nat → Nat} (hi : mv_inj (mg dA D al ext)) (h : mv_H) (hb : Br 74 (mv_r h))  {rv : Option Int32} {rg : mv_H} (hf : f_Book_operation 74 h = some (rv, rg)) : mv_C l y_Book_operation (Cond.code y_Book_operation b_Book_operation 9 (Option.none : Option Jvm.ClassFile.FieldType) :: ma) ({ frames := 1082, cells := 0, slots := 0, locals := 65104 }) (mg dA D al ext) (mK sk sv) [.ref (al 74)] h (mv_Uv (fun σ1 => rv = some 0 ∧ rg = σ1 ∧ mv_r σ1 = mv_r h) ("MachineLoomModel$Book$Wrong", al 107) (fun σ1 => rv = none ∧ rg = σ1 ∧ mv_r σ1 = mv_r h)) := by
  refine mv_C.ofV (cc := b_Book_operation) (nL := 9) (ret := (Option.none : Option Jvm.ClassFile.FieldType)) (by decide +kernel) rfl hi (Nat.le_of_ble_eq_true rfl) ?_
  intro p e s m below meth c B hNs hr hnm hno
  have jn221 : ∀ (x1 : Int32) (x2 : Int32) (x5 : Int32) (x7 : Int32) (hz : mv_H), mv_r hz = mv_r h → f_Book_operation_221 74 x1 x2 x5 x7 hz = some (rv, rg) → mv_V p l e ({ frames := 1082, cells := 0, slots := 0, locals := 65104 }) s m ([.ref (al 74)] : List Value).toArray below meth c (mg dA D al ext) 9 0 0 (mv_Q (mg dA D al ext) below s 0 0 (mv_Uv (fun σ1 => rv = some 0 ∧ rg = σ1 ∧ mv_r σ1 = mv_r h) ("MachineLoomModel$Book$Wrong", al 107) (fun σ1 => rv = none ∧ rg = σ1 ∧ mv_r σ1 = mv_r h))) hz 221 [(0, .ref (al 74)), (1, .int x1), (2, .int x2), (5, .int x5), (7, .int x7)] [] := by
    intro x1 x2 x5 x7 hz r_hz hf
    unfold f_Book_operation_221 at hf
    refine mv_aload_n (pc := 221) B d_Book_operation_221 rfl 0 rfl ?_
    refine mv_iconst (pc := 222) (v := 0) B d_Book_operation_222 (by decide) ?_
    refine mv_putI (pc := 223) (ci := 12) (C := R_Book) (T := F_Book) (N := 65) B 35 rfl rfl (by decide) i_Book t_Book_ok n_Book (B.2.2.2.1 _ k_1881) rfl rfl rfl rfl d_Book_operation_223 ?_
    refine mvh_hp (R9 := mv_r h) hf r_hz (fun g1 hf r_g1 => ?_)
    refine mv_aload_n (pc := 226) B d_Book_operation_226 rfl 0 rfl ?_
    refine mv_iconst (pc := 227) (v := 0) B d_Book_operation_227 (by decide) ?_
    refine mv_putI (pc := 228) (ci := 12) (C := R_Book) (T := F_Book) (N := 65) B 36 rfl rfl (by decide) i_Book t_Book_ok n_Book (B.2.2.2.1 _ k_1882) rfl rfl rfl rfl d_Book_operation_228 ?_
    refine mvh_hp (R9 := mv_r h) hf r_g1 (fun g2 hf r_g2 => ?_)
    refine mv_aload_n (pc := 231) B d_Book_operation_231 rfl 0 rfl ?_
    refine mv_getR (pc := 232) (ci := 12) (C := R_Book) (T := F_Book) (N := 65) B 26 rfl rfl (by decide) i_Book (B.2.2.2.1 _ k_1871) rfl ((congrFun (congrFun r_g2 74) 26).trans (hb.1 74 26 _ rfl)) d_Book_operation_232 ?_
    refine mv_iload (pc := 235) B d_Book_operation_235 4 rfl ?_
    refine mv_aload_n (pc := 237) B d_Book_operation_237 rfl 0 rfl ?_
    obtain ⟨og3, g3, eg3, hf⟩ := xtb_e hf
    refine mv_callVUi (pc := 238) (n := 0) (ci := 12) (C := R_Book) B (mK_ok sk sv) hNs rfl rfl ((rec2_x l hi 200).1 _ _ _ (xrw r_g2 hb) eg3) rfl (ma_goodc kc_Book_block) (B.2.2.2.1 _ k_2232) (B.2.2.2.1 _ k_2234) (B.2.2.2.1 _ ks_101) (B.2.2.2.1 _ k_13) ⟨by decide +kernel, by decide +kernel, by decide +kernel⟩ rfl d_Book_operation_238 rfl (Nat.le_of_ble_eq_true rfl) ⟨by first | decide | (dsimp only; omega), by first | decide | (dsimp only; omega)⟩ ⟨Nat.le_refl _, Nat.le_refl _⟩ ⟨Nat.le_refl _, Nat.le_refl _⟩ (mv_noH hno _) (fun τ9 g9 => Or.inr ⟨rfl, xth hf g9 r_g2⟩) (fun u4 σ238 h238 => ?_)
    obtain ⟨rfl, rfl, s_g3⟩ := h238
    have hf := xt2_s hf
    have r_g3 : mv_r g3 = mv_r h := s_g3.trans r_g2
    obtain ⟨q5, hf⟩ := xvi_e hf
    refine mv_iast (pc := 241) B rfl q5 d_Book_operation_241 ?_
    refine mvh_hp (R9 := mv_r h) hf r_g3 (fun g6 hf r_g6 => ?_)
    refine mv_aload_n (pc := 242) B d_Book_operation_242 rfl 0 rfl ?_
    refine mv_getR (pc := 243) (ci := 12) (C := R_Book) (T := F_Book) (N := 65) B 23 rfl rfl (by decide) i_Book (B.2.2.2.1 _ k_1868) rfl ((congrFun (congrFun r_g6 74) 23).trans (hb.1 74 23 _ rfl)) d_Book_operation_243 ?_
    refine mv_iload (pc := 246) B d_Book_operation_246 4 rfl ?_
    refine mv_iload_n (pc := 248) B d_Book_operation_248 rfl 1 rfl ?_
    obtain ⟨q7, hf⟩ := xvi_e hf
    refine mv_iast (pc := 249) B rfl q7 d_Book_operation_249 ?_
    refine mvh_hp (R9 := mv_r h) hf r_g6 (fun g8 hf r_g8 => ?_)
    refine mv_aload_n (pc := 250) B d_Book_operation_250 rfl 0 rfl ?_
    refine mv_getR (pc := 251) (ci := 12) (C := R_Book) (T := F_Book) (N := 65) B 24 rfl rfl (by decide) i_Book (B.2.2.2.1 _ k_1869) rfl ((congrFun (congrFun r_g8 74) 24).trans (hb.1 74 24 _ rfl)) d_Book_operation_251 ?_
    refine mv_iload (pc := 254) B d_Book_operation_254 4 rfl ?_
    refine mv_iload_n (pc := 256) B d_Book_operation_256 rfl 2 rfl ?_
    obtain ⟨q9, hf⟩ := xvi_e hf
    refine mv_iast (pc := 257) B rfl q9 d_Book_operation_257 ?_
    refine mvh_hp (R9 := mv_r h) hf r_g8 (fun g10 hf r_g10 => ?_)
    refine mv_iload (pc := 258) B d_Book_operation_258 3 rfl ?_
    refine mv_if_eq (pc := 260) (tgt := 264) B d_Book_operation_260 rfl (fun h260 => ?_) (fun h260 => ?_)
    · skip
      have hf := xif_t h260 hf
      refine mv_aload_n (pc := 264) B d_Book_operation_264 rfl 0 rfl ?_
      refine mv_aload_n (pc := 265) B d_Book_operation_265 rfl 0 rfl ?_
      refine mv_getI (pc := 266) (ci := 12) (C := R_Book) (T := F_Book) (N := 65) B 30 rfl rfl (by decide) i_Book (B.2.2.2.1 _ k_1876) rfl d_Book_operation_266 ?_
      refine mv_putI (pc := 269) (ci := 12) (C := R_Book) (T := F_Book) (N := 65) B 51 rfl rfl (by decide) i_Book t_Book_ok n_Book (B.2.2.2.1 _ k_1900) rfl rfl rfl rfl d_Book_operation_269 ?_
      refine mvh_hp (R9 := mv_r h) hf r_g10 (fun g11 hf r_g11 => ?_)
      refine mv_aload_n (pc := 272) B d_Book_operation_272 rfl 0 rfl ?_
      refine mv_dup (pc := 273) B d_Book_operation_273 rfl ?_
      refine mv_getI (pc := 274) (ci := 12) (C := R_Book) (T := F_Book) (N := 65) B 29 rfl rfl (by decide) i_Book (B.2.2.2.1 _ k_1874) rfl d_Book_operation_274 ?_
      refine mv_iconst (pc := 277) (v := 1) B d_Book_operation_277 (by decide) ?_
      refine mv_iadd (pc := 278) B d_Book_operation_278 ?_
      refine mv_putI (pc := 279) (ci := 12) (C := R_Book) (T := F_Book) (N := 65) B 29 rfl rfl (by decide) i_Book t_Book_ok n_Book (B.2.2.2.1 _ k_1874) rfl rfl rfl rfl d_Book_operation_279 ?_
      refine mvh_hp (R9 := mv_r h) hf r_g11 (fun g12 hf r_g12 => ?_)
      exact mv_vret (pc := 282) B hr d_Book_operation_282 (Nat.le_refl _) (Nat.le_refl _) (Or.inl ⟨rfl, xrt_i hf r_g12⟩)
    · skip
      have hf := xif_f h260 hf
      exact mv_vret (pc := 263) B hr d_Book_operation_263 (Nat.le_refl _) (Nat.le_refl _) (Or.inl ⟨rfl, xrt_i hf r_g10⟩)
  have lp154 : ∀ (nn154 : Nat) (x1 : Int32) (x2 : Int32) (x3 : Int32) (x4 : Int32) (x5 : Int32) (x6 : Int32) (x7 : Int32) (x8 : Int32) (hz : mv_H), mv_r hz = mv_r h → f_Book_operation_154 74 nn154 x1 x2 x3 x4 x5 x6 x7 x8 hz = some (rv, rg) → mv_V p l e ({ frames := 1082, cells := 0, slots := 0, locals := 65104 }) s m ([.ref (al 74)] : List Value).toArray below meth c (mg dA D al ext) 9 0 0 (mv_Q (mg dA D al ext) below s 0 0 (mv_Uv (fun σ1 => rv = some 0 ∧ rg = σ1 ∧ mv_r σ1 = mv_r h) ("MachineLoomModel$Book$Wrong", al 107) (fun σ1 => rv = none ∧ rg = σ1 ∧ mv_r σ1 = mv_r h))) hz 154 [(0, .ref (al 74)), (1, .int x1), (2, .int x2), (3, .int x3), (4, .int x4), (5, .int x5), (6, .int x6), (7, .int x7), (8, .int x8)] [] := by
    intro nn154
    induction nn154 with
    | zero => intro x1 x2 x3 x4 x5 x6 x7 x8 hz r_hz hf; cases hf
    | succ nn154 ih154 =>
      intro x1 x2 x3 x4 x5 x6 x7 x8 hz r_hz hf
      have hf : fF_Book_operation_154 74 (f_Book_operation_154 74 nn154) x1 x2 x3 x4 x5 x6 x7 x8 hz = some (rv, rg) := hf
      unfold fF_Book_operation_154 at hf
      refine mv_iload (pc := 154) B d_Book_operation_154 8 rfl ?_
      refine mv_iload (pc := 156) B d_Book_operation_156 6 rfl ?_
      refine mv_icmp_ge (pc := 158) (tgt := 189) B d_Book_operation_158 rfl (fun h158 => ?_) (fun h158 => ?_)
      · skip
        have hf := xif_t h158 hf
        refine mv_aload_n (pc := 189) B d_Book_operation_189 rfl 0 rfl ?_
        refine mv_aload_n (pc := 190) B d_Book_operation_190 rfl 0 rfl ?_
        refine mv_getI (pc := 191) (ci := 12) (C := R_Book) (T := F_Book) (N := 65) B 51 rfl rfl (by decide) i_Book (B.2.2.2.1 _ k_1900) rfl d_Book_operation_191 ?_
        refine mv_iload (pc := 194) B d_Book_operation_194 6 rfl ?_
        refine mv_iadd (pc := 196) B d_Book_operation_196 ?_
        refine mv_iload (pc := 197) B d_Book_operation_197 4 rfl ?_
        refine mv_isub (pc := 199) B d_Book_operation_199 ?_
        refine mv_putI (pc := 200) (ci := 12) (C := R_Book) (T := F_Book) (N := 65) B 30 rfl rfl (by decide) i_Book t_Book_ok n_Book (B.2.2.2.1 _ k_1876) rfl rfl rfl rfl d_Book_operation_200 ?_
        refine mvh_hp (R9 := mv_r h) hf r_hz (fun g13 hf r_g13 => ?_)
        refine mv_iload (pc := 203) B d_Book_operation_203 6 rfl ?_
        refine mv_iload (pc := 205) B d_Book_operation_205 4 rfl ?_
        refine mv_isub (pc := 207) B d_Book_operation_207 ?_
        refine mv_aload_n (pc := 208) B d_Book_operation_208 rfl 0 rfl ?_
        refine mv_getI (pc := 209) (ci := 12) (C := R_Book) (T := F_Book) (N := 65) B 20 rfl rfl (by decide) i_Book (B.2.2.2.1 _ k_1865) rfl d_Book_operation_209 ?_
        refine mv_icmp_eq (pc := 212) (tgt := 221) B d_Book_operation_212 rfl (fun h212 => ?_) (fun h212 => ?_)
        · skip
          have hf := xif_t h212 hf
          refine mv_lpick [0, 1, 2, 5, 7] rfl ?_
          exact jn221 _ _ _ _ _ r_g13 hf
        · skip
          have hf := xif_f h212 hf
          refine mv_aload_n (pc := 215) B d_Book_operation_215 rfl 0 rfl ?_
          refine mv_iconst (pc := 216) (v := 5) B d_Book_operation_216 (by decide) ?_
          refine mv_iload_n (pc := 217) B d_Book_operation_217 rfl 3 rfl ?_
          obtain ⟨g14, eg14, hf⟩ := xhv_e hf
          refine mv_callVv (pc := 218) (n := 2) (ci := 12) (C := R_Book) B (mK_ok sk sv) hNs rfl rfl (ch_Book_fault_x l hi _ _ _ eg14) rfl (ma_goodc kc_Book_fault) (B.2.2.2.1 _ k_2185) (B.2.2.2.1 _ k_2187) (B.2.2.2.1 _ ks_92) (B.2.2.2.1 _ k_13) ⟨by decide +kernel, by decide +kernel, by decide +kernel⟩ rfl d_Book_operation_218 rfl (Nat.le_of_ble_eq_true rfl) ⟨by first | decide | (dsimp only; omega), by first | decide | (dsimp only; omega)⟩ ⟨Nat.le_refl _, Nat.le_refl _⟩ ⟨Nat.le_refl _, Nat.le_refl _⟩ (mv_noH hno _) (fun σ218 h218 => ?_)
          obtain ⟨rfl, s_g14⟩ := h218
          have r_g14 : mv_r g14 = mv_r h := s_g14.trans r_g13
          refine mv_lpick [0, 1, 2, 5, 7] rfl ?_
          exact jn221 _ _ _ _ _ r_g14 hf
      · skip
        have hf := xif_f h158 hf
        refine mv_aload_n (pc := 161) B d_Book_operation_161 rfl 0 rfl ?_
        refine mv_getR (pc := 162) (ci := 12) (C := R_Book) (T := F_Book) (N := 65) B 28 rfl rfl (by decide) i_Book (B.2.2.2.1 _ k_1873) rfl ((congrFun (congrFun r_hz 74) 28).trans (hb.1 74 28 _ rfl)) d_Book_operation_162 ?_
        refine mv_aload_n (pc := 165) B d_Book_operation_165 rfl 0 rfl ?_
        refine mv_getI (pc := 166) (ci := 12) (C := R_Book) (T := F_Book) (N := 65) B 51 rfl rfl (by decide) i_Book (B.2.2.2.1 _ k_1900) rfl d_Book_operation_166 ?_
        refine mv_iload (pc := 169) B d_Book_operation_169 8 rfl ?_
        refine mv_iadd (pc := 171) B d_Book_operation_171 ?_
        refine mv_iload (pc := 172) B d_Book_operation_172 4 rfl ?_
        refine mv_isub (pc := 174) B d_Book_operation_174 ?_
        refine mv_aload_n (pc := 175) B d_Book_operation_175 rfl 0 rfl ?_
        refine mv_getR (pc := 176) (ci := 12) (C := R_Book) (T := F_Book) (N := 65) B 1 rfl rfl (by decide) i_Book (B.2.2.2.1 _ k_1844) rfl ((congrFun (congrFun r_hz 74) 1).trans hb.2) d_Book_operation_176 ?_
        refine mv_iload (pc := 179) B d_Book_operation_179 8 rfl ?_
        obtain ⟨q16, hf⟩ := xvi_e hf
        refine mv_bald (pc := 181) B rfl q16 d_Book_operation_181 ?_
        obtain ⟨q17, hf⟩ := xvi_e hf
        refine mv_bast (pc := 182) B rfl q17 d_Book_operation_182 ?_
        refine mvh_hp (R9 := mv_r h) hf r_hz (fun g18 hf r_g18 => ?_)
        refine mv_iinc (pc := 183) (j := 8) (v := 1) B d_Book_operation_183 rfl (by decide) (by decide) rfl ?_
        refine mv_goto (pc := 186) (tgt := 154) B d_Book_operation_186 rfl ?_
        refine mv_lpick [1, 2, 3, 4, 5, 6, 7, 8, 0] rfl ?_
        exact ih154 _ _ _ _ _ _ _ _ _ r_g18 hf
  have jn108 : ∀ (x1 : Int32) (x2 : Int32) (x3 : Int32) (x4 : Int32) (x5 : Int32) (hz : mv_H), mv_r hz = mv_r h → f_Book_operation_108 74 x1 x2 x3 x4 x5 hz = some (rv, rg) → mv_V p l e ({ frames := 1082, cells := 0, slots := 0, locals := 65104 }) s m ([.ref (al 74)] : List Value).toArray below meth c (mg dA D al ext) 9 0 0 (mv_Q (mg dA D al ext) below s 0 0 (mv_Uv (fun σ1 => rv = some 0 ∧ rg = σ1 ∧ mv_r σ1 = mv_r h) ("MachineLoomModel$Book$Wrong", al 107) (fun σ1 => rv = none ∧ rg = σ1 ∧ mv_r σ1 = mv_r h))) hz 108 [(0, .ref (al 74)), (1, .int x1), (2, .int x2), (3, .int x3), (4, .int x4), (5, .int x5)] [] := by
    intro x1 x2 x3 x4 x5 hz r_hz hf
    unfold f_Book_operation_108 at hf
    refine mv_aload_n (pc := 108) B d_Book_operation_108 rfl 0 rfl ?_
    refine mv_getI (pc := 109) (ci := 12) (C := R_Book) (T := F_Book) (N := 65) B 6 rfl rfl (by decide) i_Book (B.2.2.2.1 _ k_1849) rfl d_Book_operation_109 ?_
    refine mv_iconst (pc := 112) (v := 1) B d_Book_operation_112 (by decide) ?_
    refine mv_isub (pc := 113) B d_Book_operation_113 ?_
    refine mv_istore (pc := 114) B d_Book_operation_114 (by decide) rfl ?_
    refine mv_aload_n (pc := 116) B d_Book_operation_116 rfl 1 rfl ?_
    refine mv_iconst (pc := 117) (v := 3) B d_Book_operation_117 (by decide) ?_
    obtain ⟨og19, g19, eg19, hf⟩ := xtb_e hf
    refine mv_callVUv (pc := 118) (n := 1) (ci := 12) (C := R_Book) B (mK_ok sk sv) hNs rfl rfl (ch_Book_need_x l hi _ (xrw r_hz hb) _ eg19) rfl (ma_goodc kc_Book_need) (B.2.2.2.1 _ k_2177) (B.2.2.2.1 _ k_2179) (B.2.2.2.1 _ ks_91) (B.2.2.2.1 _ k_13) ⟨by decide +kernel, by decide +kernel, by decide +kernel⟩ rfl d_Book_operation_118 rfl (Nat.le_of_ble_eq_true rfl) ⟨by first | decide | (dsimp only; omega), by first | decide | (dsimp only; omega)⟩ ⟨Nat.le_refl _, Nat.le_refl _⟩ ⟨Nat.le_refl _, Nat.le_refl _⟩ (mv_noH hno _) (fun τ9 g9 => Or.inr ⟨rfl, xth hf g9 r_hz⟩) (fun σ118 h118 => ?_)
    obtain ⟨rfl, rfl, s_g19⟩ := h118
    have hf := xt2_s hf
    have r_g19 : mv_r g19 = mv_r h := s_g19.trans r_hz
    refine mv_aload_n (pc := 121) B d_Book_operation_121 rfl 1 rfl ?_
    refine mv_getI (pc := 122) (ci := 12) (C := R_Book) (T := F_Book) (N := 65) B 29 rfl rfl (by decide) i_Book (B.2.2.2.1 _ k_1874) rfl d_Book_operation_122 ?_
    refine mv_istore (pc := 125) B d_Book_operation_125 (by decide) rfl ?_
    refine mv_aload_n (pc := 127) B d_Book_operation_127 rfl 2 rfl ?_
    refine mv_getR (pc := 128) (ci := 12) (C := R_Book) (T := F_Book) (N := 65) B 25 rfl rfl (by decide) i_Book (B.2.2.2.1 _ k_1870) rfl ((congrFun (congrFun r_g19 74) 25).trans (hb.1 74 25 _ rfl)) d_Book_operation_128 ?_
    refine mv_iload (pc := 131) B d_Book_operation_131 0 rfl ?_
    refine mv_aload_n (pc := 133) B d_Book_operation_133 rfl 2 rfl ?_
    refine mv_getI (pc := 134) (ci := 12) (C := R_Book) (T := F_Book) (N := 65) B 51 rfl rfl (by decide) i_Book (B.2.2.2.1 _ k_1900) rfl d_Book_operation_134 ?_
    obtain ⟨q21, hf⟩ := xvi_e hf
    refine mv_iast (pc := 137) B rfl q21 d_Book_operation_137 ?_
    refine mvh_hp (R9 := mv_r h) hf r_g19 (fun g22 hf r_g22 => ?_)
    refine mv_aload_n (pc := 138) B d_Book_operation_138 rfl 2 rfl ?_
    refine mv_getR (pc := 139) (ci := 12) (C := R_Book) (T := F_Book) (N := 65) B 27 rfl rfl (by decide) i_Book (B.2.2.2.1 _ k_1872) rfl ((congrFun (congrFun r_g22 74) 27).trans (hb.1 74 27 _ rfl)) d_Book_operation_139 ?_
    refine mv_iload (pc := 142) B d_Book_operation_142 0 rfl ?_
    refine mv_iload (pc := 144) B d_Book_operation_144 1 rfl ?_
    refine mv_iload (pc := 146) B d_Book_operation_146 6 rfl ?_
    refine mv_isub (pc := 148) B d_Book_operation_148 ?_
    obtain ⟨q23, hf⟩ := xvi_e hf
    refine mv_iast (pc := 149) B rfl q23 d_Book_operation_149 ?_
    refine mvh_hp (R9 := mv_r h) hf r_g22 (fun g24 hf r_g24 => ?_)
    refine mv_iload (pc := 150) B d_Book_operation_150 6 rfl ?_
    refine mv_istore (pc := 152) B d_Book_operation_152 (by decide) rfl ?_
    refine mv_lpick [3, 4, 5, 6, 7, 8, 2, 1, 0] rfl ?_
    exact lp154 _ _ _ _ _ _ _ _ _ _ r_g24 hf
  have lp37 : ∀ (nn37 : Nat) (x1 : Int32) (x2 : Int32) (x3 : Int32) (x4 : Int32) (x5 : Int32) (x6 : Int32) (hz : mv_H), mv_r hz = mv_r h → f_Book_operation_37 74 nn37 x1 x2 x3 x4 x5 x6 hz = some (rv, rg) → mv_V p l e ({ frames := 1082, cells := 0, slots := 0, locals := 65104 }) s m ([.ref (al 74)] : List Value).toArray below meth c (mg dA D al ext) 9 0 0 (mv_Q (mg dA D al ext) below s 0 0 (mv_Uv (fun σ1 => rv = some 0 ∧ rg = σ1 ∧ mv_r σ1 = mv_r h) ("MachineLoomModel$Book$Wrong", al 107) (fun σ1 => rv = none ∧ rg = σ1 ∧ mv_r σ1 = mv_r h))) hz 37 [(0, .ref (al 74)), (1, .int x1), (2, .int x2), (3, .int x3), (4, .int x4), (5, .int x5), (6, .int x6)] [] := by
    intro nn37
    induction nn37 with
    | zero => intro x1 x2 x3 x4 x5 x6 hz r_hz hf; cases hf
    | succ nn37 ih37 =>
      intro x1 x2 x3 x4 x5 x6 hz r_hz hf
      have hf : fF_Book_operation_37 74 (f_Book_operation_37 74 nn37) x1 x2 x3 x4 x5 x6 hz = some (rv, rg) := hf
      unfold fF_Book_operation_37 at hf
      refine mv_iload (pc := 37) B d_Book_operation_37 6 rfl ?_
      refine mv_aload_n (pc := 39) B d_Book_operation_39 rfl 0 rfl ?_
      refine mv_getI (pc := 40) (ci := 12) (C := R_Book) (T := F_Book) (N := 65) B 29 rfl rfl (by decide) i_Book (B.2.2.2.1 _ k_1874) rfl d_Book_operation_40 ?_
      refine mv_icmp_ge (pc := 43) (tgt := 77) B d_Book_operation_43 rfl (fun h43 => ?_) (fun h43 => ?_)
      · skip
        have hf := xif_t h43 hf
        refine mv_iload (pc := 77) B d_Book_operation_77 5 rfl ?_
        refine mv_if_eq (pc := 79) (tgt := 91) B d_Book_operation_79 rfl (fun h79 => ?_) (fun h79 => ?_)
        · skip
          have hf := xif_t h79 hf
          refine mv_aload_n (pc := 91) B d_Book_operation_91 rfl 0 rfl ?_
          refine mv_getI (pc := 92) (ci := 12) (C := R_Book) (T := F_Book) (N := 65) B 29 rfl rfl (by decide) i_Book (B.2.2.2.1 _ k_1874) rfl d_Book_operation_92 ?_
          refine mv_sipush (pc := 95) (v := 512) B d_Book_operation_95 (by decide) ?_
          refine mv_icmp_lt (pc := 98) (tgt := 108) B d_Book_operation_98 rfl (fun h98 => ?_) (fun h98 => ?_)
          · skip
            have hf := xif_t h98 hf
            refine mv_lpick [0, 1, 2, 3, 4, 5] rfl ?_
            exact jn108 _ _ _ _ _ _ r_hz hf
          · skip
            have hf := xif_f h98 hf
            refine mv_aload_n (pc := 101) B d_Book_operation_101 rfl 0 rfl ?_
            refine mv_bipush (pc := 102) (v := 6) B d_Book_operation_102 (by decide) ?_
            refine mv_iload_n (pc := 104) B d_Book_operation_104 rfl 1 rfl ?_
            obtain ⟨g25, eg25, hf⟩ := xhv_e hf
            refine mv_callVv (pc := 105) (n := 2) (ci := 12) (C := R_Book) B (mK_ok sk sv) hNs rfl rfl (ch_Book_fault_x l hi _ _ _ eg25) rfl (ma_goodc kc_Book_fault) (B.2.2.2.1 _ k_2185) (B.2.2.2.1 _ k_2187) (B.2.2.2.1 _ ks_92) (B.2.2.2.1 _ k_13) ⟨by decide +kernel, by decide +kernel, by decide +kernel⟩ rfl d_Book_operation_105 rfl (Nat.le_of_ble_eq_true rfl) ⟨by first | decide | (dsimp only; omega), by first | decide | (dsimp only; omega)⟩ ⟨Nat.le_refl _, Nat.le_refl _⟩ ⟨Nat.le_refl _, Nat.le_refl _⟩ (mv_noH hno _) (fun σ105 h105 => ?_)
            obtain ⟨rfl, s_g25⟩ := h105
            have r_g25 : mv_r g25 = mv_r h := s_g25.trans r_hz
            refine mv_lpick [0, 1, 2, 3, 4, 5] rfl ?_
            exact jn108 _ _ _ _ _ _ r_g25 hf
        · skip
          have hf := xif_f h79 hf
          refine mv_aload_n (pc := 82) B d_Book_operation_82 rfl 0 rfl ?_
          refine mv_iconst (pc := 83) (v := 2) B d_Book_operation_83 (by decide) ?_
          refine mv_iload_n (pc := 84) B d_Book_operation_84 rfl 1 rfl ?_
          obtain ⟨g27, eg27, hf⟩ := xhv_e hf
          refine mv_callVv (pc := 85) (n := 2) (ci := 12) (C := R_Book) B (mK_ok sk sv) hNs rfl rfl (ch_Book_fault_x l hi _ _ _ eg27) rfl (ma_goodc kc_Book_fault) (B.2.2.2.1 _ k_2185) (B.2.2.2.1 _ k_2187) (B.2.2.2.1 _ ks_92) (B.2.2.2.1 _ k_13) ⟨by decide +kernel, by decide +kernel, by decide +kernel⟩ rfl d_Book_operation_85 rfl (Nat.le_of_ble_eq_true rfl) ⟨by first | decide | (dsimp only; omega), by first | decide | (dsimp only; omega)⟩ ⟨Nat.le_refl _, Nat.le_refl _⟩ ⟨Nat.le_refl _, Nat.le_refl _⟩ (mv_noH hno _) (fun σ85 h85 => ?_)
          obtain ⟨rfl, s_g27⟩ := h85
          have r_g27 : mv_r g27 = mv_r h := s_g27.trans r_hz
          refine mv_goto (pc := 88) (tgt := 108) B d_Book_operation_88 rfl ?_
          refine mv_lpick [0, 1, 2, 3, 4, 5] rfl ?_
          exact jn108 _ _ _ _ _ _ r_g27 hf
      · skip
        have hf := xif_f h43 hf
        refine mv_iload (pc := 46) B d_Book_operation_46 5 rfl ?_
        refine mv_aload_n (pc := 48) B d_Book_operation_48 rfl 0 rfl ?_
        refine mv_aload_n (pc := 49) B d_Book_operation_49 rfl 0 rfl ?_
        refine mv_getR (pc := 50) (ci := 12) (C := R_Book) (T := F_Book) (N := 65) B 23 rfl rfl (by decide) i_Book (B.2.2.2.1 _ k_1868) rfl ((congrFun (congrFun r_hz 74) 23).trans (hb.1 74 23 _ rfl)) d_Book_operation_50 ?_
        refine mv_iload (pc := 53) B d_Book_operation_53 6 rfl ?_
        obtain ⟨q29, hf⟩ := xvi_e hf
        refine mv_iald (pc := 55) B rfl q29 d_Book_operation_55 ?_
        refine mv_aload_n (pc := 56) B d_Book_operation_56 rfl 0 rfl ?_
        refine mv_getR (pc := 57) (ci := 12) (C := R_Book) (T := F_Book) (N := 65) B 24 rfl rfl (by decide) i_Book (B.2.2.2.1 _ k_1869) rfl ((congrFun (congrFun r_hz 74) 24).trans (hb.1 74 24 _ rfl)) d_Book_operation_57 ?_
        refine mv_iload (pc := 60) B d_Book_operation_60 6 rfl ?_
        obtain ⟨q30, hf⟩ := xvi_e hf
        refine mv_iald (pc := 62) B rfl q30 d_Book_operation_62 ?_
        refine mv_iload_n (pc := 63) B d_Book_operation_63 rfl 1 rfl ?_
        refine mv_iload_n (pc := 64) B d_Book_operation_64 rfl 2 rfl ?_
        obtain ⟨u32, g31, eg31, hf⟩ := xhb_e hf
        refine mv_callVi (pc := 65) (n := 4) (ci := 12) (C := R_Book) B (mK_ok sk sv) hNs rfl rfl (ch_Book_same_x l hi _ (xrw r_hz hb) _ _ _ _ eg31) rfl (ma_goodc kc_Book_same) (B.2.2.2.1 _ k_2216) (B.2.2.2.1 _ k_2218) (B.2.2.2.1 _ ks_98) (B.2.2.2.1 _ k_13) ⟨by decide +kernel, by decide +kernel, by decide +kernel⟩ rfl d_Book_operation_65 rfl (Nat.le_of_ble_eq_true rfl) ⟨by first | decide | (dsimp only; omega), by first | decide | (dsimp only; omega)⟩ ⟨Nat.le_refl _, Nat.le_refl _⟩ ⟨Nat.le_refl _, Nat.le_refl _⟩ (mv_noH hno _) (fun w65 σ65 h65 => ?_)
        obtain ⟨rfl, rfl, s_g31⟩ := h65
        have r_g31 : mv_r g31 = mv_r h := s_g31.trans r_hz
        refine mv_ior (pc := 68) B d_Book_operation_68 ?_
        refine mv_istore (pc := 69) B d_Book_operation_69 (by decide) rfl ?_
        refine mv_iinc (pc := 71) (j := 6) (v := 1) B d_Book_operation_71 rfl (by decide) (by decide) rfl ?_
        refine mv_goto (pc := 74) (tgt := 37) B d_Book_operation_74 rfl ?_
        refine mv_lpick [2, 3, 4, 5, 6, 1, 0] rfl ?_
        exact ih37 _ _ _ _ _ _ _ r_g31 hf
  unfold f_Book_operation at hf
  refine mv_aload_n (pc := 0) B d_Book_operation_0 rfl 0 rfl ?_
  obtain ⟨og33, g33, eg33, hf⟩ := xtb_e hf
  refine mv_callVUv (pc := 1) (n := 0) (ci := 12) (C := R_Book) B (mK_ok sk sv) hNs rfl rfl (ch_Book_pass_x l hi _ (hb) eg33) rfl (ma_goodc kc_Book_pass) (B.2.2.2.1 _ k_2173) (B.2.2.2.1 _ k_2175) (B.2.2.2.1 _ ks_90) (B.2.2.2.1 _ k_13) ⟨by decide +kernel, by decide +kernel, by decide +kernel⟩ rfl d_Book_operation_1 rfl (Nat.le_of_ble_eq_true rfl) ⟨by first | decide | (dsimp only; omega), by first | decide | (dsimp only; omega)⟩ ⟨Nat.le_refl _, Nat.le_refl _⟩ ⟨Nat.le_refl _, Nat.le_refl _⟩ (mv_noH hno _) (fun τ9 g9 => Or.inr ⟨rfl, xth hf g9 rfl⟩) (fun σ1 h1 => ?_)
  obtain ⟨rfl, rfl, s_g33⟩ := h1
  have hf := xt2_s hf
  have r_g33 : mv_r g33 = mv_r h := s_g33.trans rfl
  refine mv_aload_n (pc := 4) B d_Book_operation_4 rfl 0 rfl ?_
  obtain ⟨og35, g35, eg35, hf⟩ := xtb_e hf
  refine mv_callVUv (pc := 5) (n := 0) (ci := 12) (C := R_Book) B (mK_ok sk sv) hNs rfl rfl (ch_Book_name_x l hi _ (xrw r_g33 hb) eg35) rfl (ma_goodc kc_Book_name) (B.2.2.2.1 _ k_2194) (B.2.2.2.1 _ k_2196) (B.2.2.2.1 _ ks_94) (B.2.2.2.1 _ k_13) ⟨by decide +kernel, by decide +kernel, by decide +kernel⟩ rfl d_Book_operation_5 rfl (Nat.le_of_ble_eq_true rfl) ⟨by first | decide | (dsimp only; omega), by first | decide | (dsimp only; omega)⟩ ⟨Nat.le_refl _, Nat.le_refl _⟩ ⟨Nat.le_refl _, Nat.le_refl _⟩ (mv_noH hno _) (fun τ9 g9 => Or.inr ⟨rfl, xth hf g9 r_g33⟩) (fun σ5 h5 => ?_)
  obtain ⟨rfl, rfl, s_g35⟩ := h5
  have hf := xt2_s hf
  have r_g35 : mv_r g35 = mv_r h := s_g35.trans r_g33
  refine mv_aload_n (pc := 8) B d_Book_operation_8 rfl 0 rfl ?_
  refine mv_getI (pc := 9) (ci := 12) (C := R_Book) (T := F_Book) (N := 65) B 49 rfl rfl (by decide) i_Book (B.2.2.2.1 _ k_1898) rfl d_Book_operation_9 ?_
  refine mv_istore_n (pc := 12) B d_Book_operation_12 rfl (by decide) rfl ?_
  refine mv_aload_n (pc := 13) B d_Book_operation_13 rfl 1 rfl ?_
  refine mv_getI (pc := 14) (ci := 12) (C := R_Book) (T := F_Book) (N := 65) B 50 rfl rfl (by decide) i_Book (B.2.2.2.1 _ k_1899) rfl d_Book_operation_14 ?_
  refine mv_istore_n (pc := 17) B d_Book_operation_17 rfl (by decide) rfl ?_
  refine mv_aload_n (pc := 18) B d_Book_operation_18 rfl 2 rfl ?_
  refine mv_getI (pc := 19) (ci := 12) (C := R_Book) (T := F_Book) (N := 65) B 5 rfl rfl (by decide) i_Book (B.2.2.2.1 _ k_1848) rfl d_Book_operation_19 ?_
  refine mv_istore_n (pc := 22) B d_Book_operation_22 rfl (by decide) rfl ?_
  refine mv_aload_n (pc := 23) B d_Book_operation_23 rfl 3 rfl ?_
  refine mv_getI (pc := 24) (ci := 12) (C := R_Book) (T := F_Book) (N := 65) B 5 rfl rfl (by decide) i_Book (B.2.2.2.1 _ k_1848) rfl d_Book_operation_24 ?_
  refine mv_iconst (pc := 27) (v := 1) B d_Book_operation_27 (by decide) ?_
  refine mv_iadd (pc := 28) B d_Book_operation_28 ?_
  refine mv_istore (pc := 29) B d_Book_operation_29 (by decide) rfl ?_
  refine mv_iconst (pc := 31) (v := 0) B d_Book_operation_31 (by decide) ?_
  refine mv_istore (pc := 32) B d_Book_operation_32 (by decide) rfl ?_
  refine mv_iconst (pc := 34) (v := 0) B d_Book_operation_34 (by decide) ?_
  refine mv_istore (pc := 35) B d_Book_operation_35 (by decide) rfl ?_
  refine mv_lpick [6, 5, 4, 3, 2, 1, 0] rfl ?_
  exact lp37 _ _ _ _ _ _ _ _ r_g35 hf
set_option maxHeartbeats 4000000 in
set_option maxRecDepth 100000 in
theorem ch_Book_operation_y (l : Launch) {dA : FieldType → ClassId} {D : va_G} {al : Nat → Nat} {ext : mv_Sh} {sk sv : Nat → Nat} (hi : mv_inj (mg dA D al ext)) (h : mv_H) (hb : Br 108 (mv_r h))  {rv : Option Int32} {rg : mv_H} (hf : f_Book_operation 108 h = some (rv, rg)) : mv_C l y_Book_operation (Cond.code y_Book_operation b_Book_operation 9 (Option.none : Option Jvm.ClassFile.FieldType) :: ma) ({ frames := 1082, cells := 0, slots := 0, locals := 65104 }) (mg dA D al ext) (mK sk sv) [.ref (al 108)] h (mv_Uv (fun σ1 => rv = some 0 ∧ rg = σ1 ∧ mv_r σ1 = mv_r h) ("MachineLoomModel$Book$Wrong", al 141) (fun σ1 => rv = none ∧ rg = σ1 ∧ mv_r σ1 = mv_r h)) := by
  refine mv_C.ofV (cc := b_Book_operation) (nL := 9) (ret := (Option.none : Option Jvm.ClassFile.FieldType)) (by decide +kernel) rfl hi (Nat.le_of_ble_eq_true rfl) ?_
  intro p e s m below meth c B hNs hr hnm hno
  have jn221 : ∀ (x1 : Int32) (x2 : Int32) (x5 : Int32) (x7 : Int32) (hz : mv_H), mv_r hz = mv_r h → f_Book_operation_221 108 x1 x2 x5 x7 hz = some (rv, rg) → mv_V p l e ({ frames := 1082, cells := 0, slots := 0, locals := 65104 }) s m ([.ref (al 108)] : List Value).toArray below meth c (mg dA D al ext) 9 0 0 (mv_Q (mg dA D al ext) below s 0 0 (mv_Uv (fun σ1 => rv = some 0 ∧ rg = σ1 ∧ mv_r σ1 = mv_r h) ("MachineLoomModel$Book$Wrong", al 141) (fun σ1 => rv = none ∧ rg = σ1 ∧ mv_r σ1 = mv_r h))) hz 221 [(0, .ref (al 108)), (1, .int x1), (2, .int x2), (5, .int x5), (7, .int x7)] [] := by
    intro x1 x2 x5 x7 hz r_hz hf
    unfold f_Book_operation_221 at hf
    refine mv_aload_n (pc := 221) B d_Book_operation_221 rfl 0 rfl ?_
    refine mv_iconst (pc := 222) (v := 0) B d_Book_operation_222 (by decide) ?_
    refine mv_putI (pc := 223) (ci := 12) (C := R_Book) (T := F_Book) (N := 65) B 35 rfl rfl (by decide) i_Book t_Book_ok n_Book (B.2.2.2.1 _ k_1881) rfl rfl rfl rfl d_Book_operation_223 ?_
    refine mvh_hp (R9 := mv_r h) hf r_hz (fun g1 hf r_g1 => ?_)
    refine mv_aload_n (pc := 226) B d_Book_operation_226 rfl 0 rfl ?_
    refine mv_iconst (pc := 227) (v := 0) B d_Book_operation_227 (by decide) ?_
    refine mv_putI (pc := 228) (ci := 12) (C := R_Book) (T := F_Book) (N := 65) B 36 rfl rfl (by decide) i_Book t_Book_ok n_Book (B.2.2.2.1 _ k_1882) rfl rfl rfl rfl d_Book_operation_228 ?_
    refine mvh_hp (R9 := mv_r h) hf r_g1 (fun g2 hf r_g2 => ?_)
    refine mv_aload_n (pc := 231) B d_Book_operation_231 rfl 0 rfl ?_
    refine mv_getR (pc := 232) (ci := 12) (C := R_Book) (T := F_Book) (N := 65) B 26 rfl rfl (by decide) i_Book (B.2.2.2.1 _ k_1871) rfl ((congrFun (congrFun r_g2 108) 26).trans (hb.1 108 26 _ rfl)) d_Book_operation_232 ?_
    refine mv_iload (pc := 235) B d_Book_operation_235 4 rfl ?_
    refine mv_aload_n (pc := 237) B d_Book_operation_237 rfl 0 rfl ?_
    obtain ⟨og3, g3, eg3, hf⟩ := xtb_e hf
    refine mv_callVUi (pc := 238) (n := 0) (ci := 12) (C := R_Book) B (mK_ok sk sv) hNs rfl rfl ((rec2_y l hi 200).1 _ _ _ (xrw r_g2 hb) eg3) rfl (ma_goodc kc_Book_block) (B.2.2.2.1 _ k_2232) (B.2.2.2.1 _ k_2234) (B.2.2.2.1 _ ks_101) (B.2.2.2.1 _ k_13) ⟨by decide +kernel, by decide +kernel, by decide +kernel⟩ rfl d_Book_operation_238 rfl (Nat.le_of_ble_eq_true rfl) ⟨by first | decide | (dsimp only; omega), by first | decide | (dsimp only; omega)⟩ ⟨Nat.le_refl _, Nat.le_refl _⟩ ⟨Nat.le_refl _, Nat.le_refl _⟩ (mv_noH hno _) (fun τ9 g9 => Or.inr ⟨rfl, xth hf g9 r_g2⟩) (fun u4 σ238 h238 => ?_)
    obtain ⟨rfl, rfl, s_g3⟩ := h238
    have hf := xt2_s hf
    have r_g3 : mv_r g3 = mv_r h := s_g3.trans r_g2
    obtain ⟨q5, hf⟩ := xvi_e hf
    refine mv_iast (pc := 241) B rfl q5 d_Book_operation_241 ?_
    refine mvh_hp (R9 := mv_r h) hf r_g3 (fun g6 hf r_g6 => ?_)
    refine mv_aload_n (pc := 242) B d_Book_operation_242 rfl 0 rfl ?_
    refine mv_getR (pc := 243) (ci := 12) (C := R_Book) (T := F_Book) (N := 65) B 23 rfl rfl (by decide) i_Book (B.2.2.2.1 _ k_1868) rfl ((congrFun (congrFun r_g6 108) 23).trans (hb.1 108 23 _ rfl)) d_Book_operation_243 ?_
    refine mv_iload (pc := 246) B d_Book_operation_246 4 rfl ?_
    refine mv_iload_n (pc := 248) B d_Book_operation_248 rfl 1 rfl ?_
    obtain ⟨q7, hf⟩ := xvi_e hf
    refine mv_iast (pc := 249) B rfl q7 d_Book_operation_249 ?_
    refine mvh_hp (R9 := mv_r h) hf r_g6 (fun g8 hf r_g8 => ?_)
    refine mv_aload_n (pc := 250) B d_Book_operation_250 rfl 0 rfl ?_
    refine mv_getR (pc := 251) (ci := 12) (C := R_Book) (T := F_Book) (N := 65) B 24 rfl rfl (by decide) i_Book (B.2.2.2.1 _ k_1869) rfl ((congrFun (congrFun r_g8 108) 24).trans (hb.1 108 24 _ rfl)) d_Book_operation_251 ?_
    refine mv_iload (pc := 254) B d_Book_operation_254 4 rfl ?_
    refine mv_iload_n (pc := 256) B d_Book_operation_256 rfl 2 rfl ?_
    obtain ⟨q9, hf⟩ := xvi_e hf
    refine mv_iast (pc := 257) B rfl q9 d_Book_operation_257 ?_
    refine mvh_hp (R9 := mv_r h) hf r_g8 (fun g10 hf r_g10 => ?_)
    refine mv_iload (pc := 258) B d_Book_operation_258 3 rfl ?_
    refine mv_if_eq (pc := 260) (tgt := 264) B d_Book_operation_260 rfl (fun h260 => ?_) (fun h260 => ?_)
    · skip
      have hf := xif_t h260 hf
      refine mv_aload_n (pc := 264) B d_Book_operation_264 rfl 0 rfl ?_
      refine mv_aload_n (pc := 265) B d_Book_operation_265 rfl 0 rfl ?_
      refine mv_getI (pc := 266) (ci := 12) (C := R_Book) (T := F_Book) (N := 65) B 30 rfl rfl (by decide) i_Book (B.2.2.2.1 _ k_1876) rfl d_Book_operation_266 ?_
      refine mv_putI (pc := 269) (ci := 12) (C := R_Book) (T := F_Book) (N := 65) B 51 rfl rfl (by decide) i_Book t_Book_ok n_Book (B.2.2.2.1 _ k_1900) rfl rfl rfl rfl d_Book_operation_269 ?_
      refine mvh_hp (R9 := mv_r h) hf r_g10 (fun g11 hf r_g11 => ?_)
      refine mv_aload_n (pc := 272) B d_Book_operation_272 rfl 0 rfl ?_
      refine mv_dup (pc := 273) B d_Book_operation_273 rfl ?_
      refine mv_getI (pc := 274) (ci := 12) (C := R_Book) (T := F_Book) (N := 65) B 29 rfl rfl (by decide) i_Book (B.2.2.2.1 _ k_1874) rfl d_Book_operation_274 ?_
      refine mv_iconst (pc := 277) (v := 1) B d_Book_operation_277 (by decide) ?_
      refine mv_iadd (pc := 278) B d_Book_operation_278 ?_
      refine mv_putI (pc := 279) (ci := 12) (C := R_Book) (T := F_Book) (N := 65) B 29 rfl rfl (by decide) i_Book t_Book_ok n_Book (B.2.2.2.1 _ k_1874) rfl rfl rfl rfl d_Book_operation_279 ?_
      refine mvh_hp (R9 := mv_r h) hf r_g11 (fun g12 hf r_g12 => ?_)
      exact mv_vret (pc := 282) B hr d_Book_operation_282 (Nat.le_refl _) (Nat.le_refl _) (Or.inl ⟨rfl, xrt_i hf r_g12⟩)
    · skip
      have hf := xif_f h260 hf
      exact mv_vret (pc := 263) B hr d_Book_operation_263 (Nat.le_refl _) (Nat.le_refl _) (Or.inl ⟨rfl, xrt_i hf r_g10⟩)
  have lp154 : ∀ (nn154 : Nat) (x1 : Int32) (x2 : Int32) (x3 : Int32) (x4 : Int32) (x5 : Int32) (x6 : Int32) (x7 : Int32) (x8 : Int32) (hz : mv_H), mv_r hz = mv_r h → f_Book_operation_154 108 nn154 x1 x2 x3 x4 x5 x6 x7 x8 hz = some (rv, rg) → mv_V p l e ({ frames := 1082, cells := 0, slots := 0, locals := 65104 }) s m ([.ref (al 108)] : List Value).toArray below meth c (mg dA D al ext) 9 0 0 (mv_Q (mg dA D al ext) below s 0 0 (mv_Uv (fun σ1 => rv = some 0 ∧ rg = σ1 ∧ mv_r σ1 = mv_r h) ("MachineLoomModel$Book$Wrong", al 141) (fun σ1 => rv = none ∧ rg = σ1 ∧ mv_r σ1 = mv_r h))) hz 154 [(0, .ref (al 108)), (1, .int x1), (2, .int x2), (3, .int x3), (4, .int x4), (5, .int x5), (6, .int x6), (7, .int x7), (8, .int x8)] [] := by
    intro nn154
    induction nn154 with
    | zero => intro x1 x2 x3 x4 x5 x6 x7 x8 hz r_hz hf; cases hf
    | succ nn154 ih154 =>
      intro x1 x2 x3 x4 x5 x6 x7 x8 hz r_hz hf
      have hf : fF_Book_operation_154 108 (f_Book_operation_154 108 nn154) x1 x2 x3 x4 x5 x6 x7 x8 hz = some (rv, rg) := hf
      unfold fF_Book_operation_154 at hf
      refine mv_iload (pc := 154) B d_Book_operation_154 8 rfl ?_
      refine mv_iload (pc := 156) B d_Book_operation_156 6 rfl ?_
      refine mv_icmp_ge (pc := 158) (tgt := 189) B d_Book_operation_158 rfl (fun h158 => ?_) (fun h158 => ?_)
      · skip
        have hf := xif_t h158 hf
        refine mv_aload_n (pc := 189) B d_Book_operation_189 rfl 0 rfl ?_
        refine mv_aload_n (pc := 190) B d_Book_operation_190 rfl 0 rfl ?_
        refine mv_getI (pc := 191) (ci := 12) (C := R_Book) (T := F_Book) (N := 65) B 51 rfl rfl (by decide) i_Book (B.2.2.2.1 _ k_1900) rfl d_Book_operation_191 ?_
        refine mv_iload (pc := 194) B d_Book_operation_194 6 rfl ?_
        refine mv_iadd (pc := 196) B d_Book_operation_196 ?_
        refine mv_iload (pc := 197) B d_Book_operation_197 4 rfl ?_
        refine mv_isub (pc := 199) B d_Book_operation_199 ?_
        refine mv_putI (pc := 200) (ci := 12) (C := R_Book) (T := F_Book) (N := 65) B 30 rfl rfl (by decide) i_Book t_Book_ok n_Book (B.2.2.2.1 _ k_1876) rfl rfl rfl rfl d_Book_operation_200 ?_
        refine mvh_hp (R9 := mv_r h) hf r_hz (fun g13 hf r_g13 => ?_)
        refine mv_iload (pc := 203) B d_Book_operation_203 6 rfl ?_
        refine mv_iload (pc := 205) B d_Book_operation_205 4 rfl ?_
        refine mv_isub (pc := 207) B d_Book_operation_207 ?_
        refine mv_aload_n (pc := 208) B d_Book_operation_208 rfl 0 rfl ?_
        refine mv_getI (pc := 209) (ci := 12) (C := R_Book) (T := F_Book) (N := 65) B 20 rfl rfl (by decide) i_Book (B.2.2.2.1 _ k_1865) rfl d_Book_operation_209 ?_
        refine mv_icmp_eq (pc := 212) (tgt := 221) B d_Book_operation_212 rfl (fun h212 => ?_) (fun h212 => ?_)
        · skip
          have hf := xif_t h212 hf
          refine mv_lpick [0, 1, 2, 5, 7] rfl ?_
          exact jn221 _ _ _ _ _ r_g13 hf
        · skip
          have hf := xif_f h212 hf
          refine mv_aload_n (pc := 215) B d_Book_operation_215 rfl 0 rfl ?_
          refine mv_iconst (pc := 216) (v := 5) B d_Book_operation_216 (by decide) ?_
          refine mv_iload_n (pc := 217) B d_Book_operation_217 rfl 3 rfl ?_
          obtain ⟨g14, eg14, hf⟩ := xhv_e hf
          refine mv_callVv (pc := 218) (n := 2) (ci := 12) (C := R_Book) B (mK_ok sk sv) hNs rfl rfl (ch_Book_fault_y l hi _ _ _ eg14) rfl (ma_goodc kc_Book_fault) (B.2.2.2.1 _ k_2185) (B.2.2.2.1 _ k_2187) (B.2.2.2.1 _ ks_92) (B.2.2.2.1 _ k_13) ⟨by decide +kernel, by decide +kernel, by decide +kernel⟩ rfl d_Book_operation_218 rfl (Nat.le_of_ble_eq_true rfl) ⟨by first | decide | (dsimp only; omega), by first | decide | (dsimp only; omega)⟩ ⟨Nat.le_refl _, Nat.le_refl _⟩ ⟨Nat.le_refl _, Nat.le_refl _⟩ (mv_noH hno _) (fun σ218 h218 => ?_)
          obtain ⟨rfl, s_g14⟩ := h218
          have r_g14 : mv_r g14 = mv_r h := s_g14.trans r_g13
          refine mv_lpick [0, 1, 2, 5, 7] rfl ?_
          exact jn221 _ _ _ _ _ r_g14 hf
      · skip
        have hf := xif_f h158 hf
        refine mv_aload_n (pc := 161) B d_Book_operation_161 rfl 0 rfl ?_
        refine mv_getR (pc := 162) (ci := 12) (C := R_Book) (T := F_Book) (N := 65) B 28 rfl rfl (by decide) i_Book (B.2.2.2.1 _ k_1873) rfl ((congrFun (congrFun r_hz 108) 28).trans (hb.1 108 28 _ rfl)) d_Book_operation_162 ?_
        refine mv_aload_n (pc := 165) B d_Book_operation_165 rfl 0 rfl ?_
        refine mv_getI (pc := 166) (ci := 12) (C := R_Book) (T := F_Book) (N := 65) B 51 rfl rfl (by decide) i_Book (B.2.2.2.1 _ k_1900) rfl d_Book_operation_166 ?_
        refine mv_iload (pc := 169) B d_Book_operation_169 8 rfl ?_
        refine mv_iadd (pc := 171) B d_Book_operation_171 ?_
        refine mv_iload (pc := 172) B d_Book_operation_172 4 rfl ?_
        refine mv_isub (pc := 174) B d_Book_operation_174 ?_
        refine mv_aload_n (pc := 175) B d_Book_operation_175 rfl 0 rfl ?_
        refine mv_getR (pc := 176) (ci := 12) (C := R_Book) (T := F_Book) (N := 65) B 1 rfl rfl (by decide) i_Book (B.2.2.2.1 _ k_1844) rfl ((congrFun (congrFun r_hz 108) 1).trans hb.2) d_Book_operation_176 ?_
        refine mv_iload (pc := 179) B d_Book_operation_179 8 rfl ?_
        obtain ⟨q16, hf⟩ := xvi_e hf
        refine mv_bald (pc := 181) B rfl q16 d_Book_operation_181 ?_
        obtain ⟨q17, hf⟩ := xvi_e hf
        refine mv_bast (pc := 182) B rfl q17 d_Book_operation_182 ?_
        refine mvh_hp (R9 := mv_r h) hf r_hz (fun g18 hf r_g18 => ?_)
        refine mv_iinc (pc := 183) (j := 8) (v := 1) B d_Book_operation_183 rfl (by decide) (by decide) rfl ?_
        refine mv_goto (pc := 186) (tgt := 154) B d_Book_operation_186 rfl ?_
        refine mv_lpick [1, 2, 3, 4, 5, 6, 7, 8, 0] rfl ?_
        exact ih154 _ _ _ _ _ _ _ _ _ r_g18 hf
  have jn108 : ∀ (x1 : Int32) (x2 : Int32) (x3 : Int32) (x4 : Int32) (x5 : Int32) (hz : mv_H), mv_r hz = mv_r h → f_Book_operation_108 108 x1 x2 x3 x4 x5 hz = some (rv, rg) → mv_V p l e ({ frames := 1082, cells := 0, slots := 0, locals := 65104 }) s m ([.ref (al 108)] : List Value).toArray below meth c (mg dA D al ext) 9 0 0 (mv_Q (mg dA D al ext) below s 0 0 (mv_Uv (fun σ1 => rv = some 0 ∧ rg = σ1 ∧ mv_r σ1 = mv_r h) ("MachineLoomModel$Book$Wrong", al 141) (fun σ1 => rv = none ∧ rg = σ1 ∧ mv_r σ1 = mv_r h))) hz 108 [(0, .ref (al 108)), (1, .int x1), (2, .int x2), (3, .int x3), (4, .int x4), (5, .int x5)] [] := by
    intro x1 x2 x3 x4 x5 hz r_hz hf
    unfold f_Book_operation_108 at hf
    refine mv_aload_n (pc := 108) B d_Book_operation_108 rfl 0 rfl ?_
    refine mv_getI (pc := 109) (ci := 12) (C := R_Book) (T := F_Book) (N := 65) B 6 rfl rfl (by decide) i_Book (B.2.2.2.1 _ k_1849) rfl d_Book_operation_109 ?_
    refine mv_iconst (pc := 112) (v := 1) B d_Book_operation_112 (by decide) ?_
    refine mv_isub (pc := 113) B d_Book_operation_113 ?_
    refine mv_istore (pc := 114) B d_Book_operation_114 (by decide) rfl ?_
    refine mv_aload_n (pc := 116) B d_Book_operation_116 rfl 1 rfl ?_
    refine mv_iconst (pc := 117) (v := 3) B d_Book_operation_117 (by decide) ?_
    obtain ⟨og19, g19, eg19, hf⟩ := xtb_e hf
    refine mv_callVUv (pc := 118) (n := 1) (ci := 12) (C := R_Book) B (mK_ok sk sv) hNs rfl rfl (ch_Book_need_y l hi _ (xrw r_hz hb) _ eg19) rfl (ma_goodc kc_Book_need) (B.2.2.2.1 _ k_2177) (B.2.2.2.1 _ k_2179) (B.2.2.2.1 _ ks_91) (B.2.2.2.1 _ k_13) ⟨by decide +kernel, by decide +kernel, by decide +kernel⟩ rfl d_Book_operation_118 rfl (Nat.le_of_ble_eq_true rfl) ⟨by first | decide | (dsimp only; omega), by first | decide | (dsimp only; omega)⟩ ⟨Nat.le_refl _, Nat.le_refl _⟩ ⟨Nat.le_refl _, Nat.le_refl _⟩ (mv_noH hno _) (fun τ9 g9 => Or.inr ⟨rfl, xth hf g9 r_hz⟩) (fun σ118 h118 => ?_)
    obtain ⟨rfl, rfl, s_g19⟩ := h118
    have hf := xt2_s hf
    have r_g19 : mv_r g19 = mv_r h := s_g19.trans r_hz
    refine mv_aload_n (pc := 121) B d_Book_operation_121 rfl 1 rfl ?_
    refine mv_getI (pc := 122) (ci := 12) (C := R_Book) (T := F_Book) (N := 65) B 29 rfl rfl (by decide) i_Book (B.2.2.2.1 _ k_1874) rfl d_Book_operation_122 ?_
    refine mv_istore (pc := 125) B d_Book_operation_125 (by decide) rfl ?_
    refine mv_aload_n (pc := 127) B d_Book_operation_127 rfl 2 rfl ?_
    refine mv_getR (pc := 128) (ci := 12) (C := R_Book) (T := F_Book) (N := 65) B 25 rfl rfl (by decide) i_Book (B.2.2.2.1 _ k_1870) rfl ((congrFun (congrFun r_g19 108) 25).trans (hb.1 108 25 _ rfl)) d_Book_operation_128 ?_
    refine mv_iload (pc := 131) B d_Book_operation_131 0 rfl ?_
    refine mv_aload_n (pc := 133) B d_Book_operation_133 rfl 2 rfl ?_
    refine mv_getI (pc := 134) (ci := 12) (C := R_Book) (T := F_Book) (N := 65) B 51 rfl rfl (by decide) i_Book (B.2.2.2.1 _ k_1900) rfl d_Book_operation_134 ?_
    obtain ⟨q21, hf⟩ := xvi_e hf
    refine mv_iast (pc := 137) B rfl q21 d_Book_operation_137 ?_
    refine mvh_hp (R9 := mv_r h) hf r_g19 (fun g22 hf r_g22 => ?_)
    refine mv_aload_n (pc := 138) B d_Book_operation_138 rfl 2 rfl ?_
    refine mv_getR (pc := 139) (ci := 12) (C := R_Book) (T := F_Book) (N := 65) B 27 rfl rfl (by decide) i_Book (B.2.2.2.1 _ k_1872) rfl ((congrFun (congrFun r_g22 108) 27).trans (hb.1 108 27 _ rfl)) d_Book_operation_139 ?_
    refine mv_iload (pc := 142) B d_Book_operation_142 0 rfl ?_
    refine mv_iload (pc := 144) B d_Book_operation_144 1 rfl ?_
    refine mv_iload (pc := 146) B d_Book_operation_146 6 rfl ?_
    refine mv_isub (pc := 148) B d_Book_operation_148 ?_
    obtain ⟨q23, hf⟩ := xvi_e hf
    refine mv_iast (pc := 149) B rfl q23 d_Book_operation_149 ?_
    refine mvh_hp (R9 := mv_r h) hf r_g22 (fun g24 hf r_g24 => ?_)
    refine mv_iload (pc := 150) B d_Book_operation_150 6 rfl ?_
    refine mv_istore (pc := 152) B d_Book_operation_152 (by decide) rfl ?_
    refine mv_lpick [3, 4, 5, 6, 7, 8, 2, 1, 0] rfl ?_
    exact lp154 _ _ _ _ _ _ _ _ _ _ r_g24 hf
  have lp37 : ∀ (nn37 : Nat) (x1 : Int32) (x2 : Int32) (x3 : Int32) (x4 : Int32) (x5 : Int32) (x6 : Int32) (hz : mv_H), mv_r hz = mv_r h → f_Book_operation_37 108 nn37 x1 x2 x3 x4 x5 x6 hz = some (rv, rg) → mv_V p l e ({ frames := 1082, cells := 0, slots := 0, locals := 65104 }) s m ([.ref (al 108)] : List Value).toArray below meth c (mg dA D al ext) 9 0 0 (mv_Q (mg dA D al ext) below s 0 0 (mv_Uv (fun σ1 => rv = some 0 ∧ rg = σ1 ∧ mv_r σ1 = mv_r h) ("MachineLoomModel$Book$Wrong", al 141) (fun σ1 => rv = none ∧ rg = σ1 ∧ mv_r σ1 = mv_r h))) hz 37 [(0, .ref (al 108)), (1, .int x1), (2, .int x2), (3, .int x3), (4, .int x4), (5, .int x5), (6, .int x6)] [] := by
    intro nn37
    induction nn37 with
    | zero => intro x1 x2 x3 x4 x5 x6 hz r_hz hf; cases hf
    | succ nn37 ih37 =>
      intro x1 x2 x3 x4 x5 x6 hz r_hz hf
      have hf : fF_Book_operation_37 108 (f_Book_operation_37 108 nn37) x1 x2 x3 x4 x5 x6 hz = some (rv, rg) := hf
      unfold fF_Book_operation_37 at hf
      refine mv_iload (pc := 37) B d_Book_operation_37 6 rfl ?_
      refine mv_aload_n (pc := 39) B d_Book_operation_39 rfl 0 rfl ?_
      refine mv_getI (pc := 40) (ci := 12) (C := R_Book) (T := F_Book) (N := 65) B 29 rfl rfl (by decide) i_Book (B.2.2.2.1 _ k_1874) rfl d_Book_operation_40 ?_
      refine mv_icmp_ge (pc := 43) (tgt := 77) B d_Book_operation_43 rfl (fun h43 => ?_) (fun h43 => ?_)
      · skip
        have hf := xif_t h43 hf
        refine mv_iload (pc := 77) B d_Book_operation_77 5 rfl ?_
        refine mv_if_eq (pc := 79) (tgt := 91) B d_Book_operation_79 rfl (fun h79 => ?_) (fun h79 => ?_)
        · skip
          have hf := xif_t h79 hf
          refine mv_aload_n (pc := 91) B d_Book_operation_91 rfl 0 rfl ?_
          refine mv_getI (pc := 92) (ci := 12) (C := R_Book) (T := F_Book) (N := 65) B 29 rfl rfl (by decide) i_Book (B.2.2.2.1 _ k_1874) rfl d_Book_operation_92 ?_
          refine mv_sipush (pc := 95) (v := 512) B d_Book_operation_95 (by decide) ?_
          refine mv_icmp_lt (pc := 98) (tgt := 108) B d_Book_operation_98 rfl (fun h98 => ?_) (fun h98 => ?_)
          · skip
            have hf := xif_t h98 hf
            refine mv_lpick [0, 1, 2, 3, 4, 5] rfl ?_
            exact jn108 _ _ _ _ _ _ r_hz hf
          · skip
            have hf := xif_f h98 hf
            refine mv_aload_n (pc := 101) B d_Book_operation_101 rfl 0 rfl ?_
            refine mv_bipush (pc := 102) (v := 6) B d_Book_operation_102 (by decide) ?_
            refine mv_iload_n (pc := 104) B d_Book_operation_104 rfl 1 rfl ?_
            obtain ⟨g25, eg25, hf⟩ := xhv_e hf
            refine mv_callVv (pc := 105) (n := 2) (ci := 12) (C := R_Book) B (mK_ok sk sv) hNs rfl rfl (ch_Book_fault_y l hi _ _ _ eg25) rfl (ma_goodc kc_Book_fault) (B.2.2.2.1 _ k_2185) (B.2.2.2.1 _ k_2187) (B.2.2.2.1 _ ks_92) (B.2.2.2.1 _ k_13) ⟨by decide +kernel, by decide +kernel, by decide +kernel⟩ rfl d_Book_operation_105 rfl (Nat.le_of_ble_eq_true rfl) ⟨by first | decide | (dsimp only; omega), by first | decide | (dsimp only; omega)⟩ ⟨Nat.le_refl _, Nat.le_refl _⟩ ⟨Nat.le_refl _, Nat.le_refl _⟩ (mv_noH hno _) (fun σ105 h105 => ?_)
            obtain ⟨rfl, s_g25⟩ := h105
            have r_g25 : mv_r g25 = mv_r h := s_g25.trans r_hz
            refine mv_lpick [0, 1, 2, 3, 4, 5] rfl ?_
            exact jn108 _ _ _ _ _ _ r_g25 hf
        · skip
          have hf := xif_f h79 hf
          refine mv_aload_n (pc := 82) B d_Book_operation_82 rfl 0 rfl ?_
          refine mv_iconst (pc := 83) (v := 2) B d_Book_operation_83 (by decide) ?_
          refine mv_iload_n (pc := 84) B d_Book_operation_84 rfl 1 rfl ?_
          obtain ⟨g27, eg27, hf⟩ := xhv_e hf
          refine mv_callVv (pc := 85) (n := 2) (ci := 12) (C := R_Book) B (mK_ok sk sv) hNs rfl rfl (ch_Book_fault_y l hi _ _ _ eg27) rfl (ma_goodc kc_Book_fault) (B.2.2.2.1 _ k_2185) (B.2.2.2.1 _ k_2187) (B.2.2.2.1 _ ks_92) (B.2.2.2.1 _ k_13) ⟨by decide +kernel, by decide +kernel, by decide +kernel⟩ rfl d_Book_operation_85 rfl (Nat.le_of_ble_eq_true rfl) ⟨by first | decide | (dsimp only; omega), by first | decide | (dsimp only; omega)⟩ ⟨Nat.le_refl _, Nat.le_refl _⟩ ⟨Nat.le_refl _, Nat.le_refl _⟩ (mv_noH hno _) (fun σ85 h85 => ?_)
          obtain ⟨rfl, s_g27⟩ := h85
          have r_g27 : mv_r g27 = mv_r h := s_g27.trans r_hz
          refine mv_goto (pc := 88) (tgt := 108) B d_Book_operation_88 rfl ?_
          refine mv_lpick [0, 1, 2, 3, 4, 5] rfl ?_
          exact jn108 _ _ _ _ _ _ r_g27 hf
      · skip
        have hf := xif_f h43 hf
        refine mv_iload (pc := 46) B d_Book_operation_46 5 rfl ?_
        refine mv_aload_n (pc := 48) B d_Book_operation_48 rfl 0 rfl ?_
        refine mv_aload_n (pc := 49) B d_Book_operation_49 rfl 0 rfl ?_
        refine mv_getR (pc := 50) (ci := 12) (C := R_Book) (T := F_Book) (N := 65) B 23 rfl rfl (by decide) i_Book (B.2.2.2.1 _ k_1868) rfl ((congrFun (congrFun r_hz 108) 23).trans (hb.1 108 23 _ rfl)) d_Book_operation_50 ?_
        refine mv_iload (pc := 53) B d_Book_operation_53 6 rfl ?_
        obtain ⟨q29, hf⟩ := xvi_e hf
        refine mv_iald (pc := 55) B rfl q29 d_Book_operation_55 ?_
        refine mv_aload_n (pc := 56) B d_Book_operation_56 rfl 0 rfl ?_
        refine mv_getR (pc := 57) (ci := 12) (C := R_Book) (T := F_Book) (N := 65) B 24 rfl rfl (by decide) i_Book (B.2.2.2.1 _ k_1869) rfl ((congrFun (congrFun r_hz 108) 24).trans (hb.1 108 24 _ rfl)) d_Book_operation_57 ?_
        refine mv_iload (pc := 60) B d_Book_operation_60 6 rfl ?_
        obtain ⟨q30, hf⟩ := xvi_e hf
        refine mv_iald (pc := 62) B rfl q30 d_Book_operation_62 ?_
        refine mv_iload_n (pc := 63) B d_Book_operation_63 rfl 1 rfl ?_
        refine mv_iload_n (pc := 64) B d_Book_operation_64 rfl 2 rfl ?_
        obtain ⟨u32, g31, eg31, hf⟩ := xhb_e hf
        refine mv_callVi (pc := 65) (n := 4) (ci := 12) (C := R_Book) B (mK_ok sk sv) hNs rfl rfl (ch_Book_same_y l hi _ (xrw r_hz hb) _ _ _ _ eg31) rfl (ma_goodc kc_Book_same) (B.2.2.2.1 _ k_2216) (B.2.2.2.1 _ k_2218) (B.2.2.2.1 _ ks_98) (B.2.2.2.1 _ k_13) ⟨by decide +kernel, by decide +kernel, by decide +kernel⟩ rfl d_Book_operation_65 rfl (Nat.le_of_ble_eq_true rfl) ⟨by first | decide | (dsimp only; omega), by first | decide | (dsimp only; omega)⟩ ⟨Nat.le_refl _, Nat.le_refl _⟩ ⟨Nat.le_refl _, Nat.le_refl _⟩ (mv_noH hno _) (fun w65 σ65 h65 => ?_)
        obtain ⟨rfl, rfl, s_g31⟩ := h65
        have r_g31 : mv_r g31 = mv_r h := s_g31.trans r_hz
        refine mv_ior (pc := 68) B d_Book_operation_68 ?_
        refine mv_istore (pc := 69) B d_Book_operation_69 (by decide) rfl ?_
        refine mv_iinc (pc := 71) (j := 6) (v := 1) B d_Book_operation_71 rfl (by decide) (by decide) rfl ?_
        refine mv_goto (pc := 74) (tgt := 37) B d_Book_operation_74 rfl ?_
        refine mv_lpick [2, 3, 4, 5, 6, 1, 0] rfl ?_
        exact ih37 _ _ _ _ _ _ _ r_g31 hf
  unfold f_Book_operation at hf
  refine mv_aload_n (pc := 0) B d_Book_operation_0 rfl 0 rfl ?_
  obtain ⟨og33, g33, eg33, hf⟩ := xtb_e hf
  refine mv_callVUv (pc := 1) (n := 0) (ci := 12) (C := R_Book) B (mK_ok sk sv) hNs rfl rfl (ch_Book_pass_y l hi _ (hb) eg33) rfl (ma_goodc kc_Book_pass) (B.2.2.2.1 _ k_2173) (B.2.2.2.1 _ k_2175) (B.2.2.2.1 _ ks_90) (B.2.2.2.1 _ k_13) ⟨by decide +kernel, by decide +kernel, by decide +kernel⟩ rfl d_Book_operation_1 rfl (Nat.le_of_ble_eq_true rfl) ⟨by first | decide | (dsimp only; omega), by first | decide | (dsimp only; omega)⟩ ⟨Nat.le_refl _, Nat.le_refl _⟩ ⟨Nat.le_refl _, Nat.le_refl _⟩ (mv_noH hno _) (fun τ9 g9 => Or.inr ⟨rfl, xth hf g9 rfl⟩) (fun σ1 h1 => ?_)
  obtain ⟨rfl, rfl, s_g33⟩ := h1
  have hf := xt2_s hf
  have r_g33 : mv_r g33 = mv_r h := s_g33.trans rfl
  refine mv_aload_n (pc := 4) B d_Book_operation_4 rfl 0 rfl ?_
  obtain ⟨og35, g35, eg35, hf⟩ := xtb_e hf
  refine mv_callVUv (pc := 5) (n := 0) (ci := 12) (C := R_Book) B (mK_ok sk sv) hNs rfl rfl (ch_Book_name_y l hi _ (xrw r_g33 hb) eg35) rfl (ma_goodc kc_Book_name) (B.2.2.2.1 _ k_2194) (B.2.2.2.1 _ k_2196) (B.2.2.2.1 _ ks_94) (B.2.2.2.1 _ k_13) ⟨by decide +kernel, by decide +kernel, by decide +kernel⟩ rfl d_Book_operation_5 rfl (Nat.le_of_ble_eq_true rfl) ⟨by first | decide | (dsimp only; omega), by first | decide | (dsimp only; omega)⟩ ⟨Nat.le_refl _, Nat.le_refl _⟩ ⟨Nat.le_refl _, Nat.le_refl _⟩ (mv_noH hno _) (fun τ9 g9 => Or.inr ⟨rfl, xth hf g9 r_g33⟩) (fun σ5 h5 => ?_)
  obtain ⟨rfl, rfl, s_g35⟩ := h5
  have hf := xt2_s hf
  have r_g35 : mv_r g35 = mv_r h := s_g35.trans r_g33
  refine mv_aload_n (pc := 8) B d_Book_operation_8 rfl 0 rfl ?_
  refine mv_getI (pc := 9) (ci := 12) (C := R_Book) (T := F_Book) (N := 65) B 49 rfl rfl (by decide) i_Book (B.2.2.2.1 _ k_1898) rfl d_Book_operation_9 ?_
  refine mv_istore_n (pc := 12) B d_Book_operation_12 rfl (by decide) rfl ?_
  refine mv_aload_n (pc := 13) B d_Book_operation_13 rfl 1 rfl ?_
  refine mv_getI (pc := 14) (ci := 12) (C := R_Book) (T := F_Book) (N := 65) B 50 rfl rfl (by decide) i_Book (B.2.2.2.1 _ k_1899) rfl d_Book_operation_14 ?_
  refine mv_istore_n (pc := 17) B d_Book_operation_17 rfl (by decide) rfl ?_
  refine mv_aload_n (pc := 18) B d_Book_operation_18 rfl 2 rfl ?_
  refine mv_getI (pc := 19) (ci := 12) (C := R_Book) (T := F_Book) (N := 65) B 5 rfl rfl (by decide) i_Book (B.2.2.2.1 _ k_1848) rfl d_Book_operation_19 ?_
  refine mv_istore_n (pc := 22) B d_Book_operation_22 rfl (by decide) rfl ?_
  refine mv_aload_n (pc := 23) B d_Book_operation_23 rfl 3 rfl ?_
  refine mv_getI (pc := 24) (ci := 12) (C := R_Book) (T := F_Book) (N := 65) B 5 rfl rfl (by decide) i_Book (B.2.2.2.1 _ k_1848) rfl d_Book_operation_24 ?_
  refine mv_iconst (pc := 27) (v := 1) B d_Book_operation_27 (by decide) ?_
  refine mv_iadd (pc := 28) B d_Book_operation_28 ?_
  refine mv_istore (pc := 29) B d_Book_operation_29 (by decide) rfl ?_
  refine mv_iconst (pc := 31) (v := 0) B d_Book_operation_31 (by decide) ?_
  refine mv_istore (pc := 32) B d_Book_operation_32 (by decide) rfl ?_
  refine mv_iconst (pc := 34) (v := 0) B d_Book_operation_34 (by decide) ?_
  refine mv_istore (pc := 35) B d_Book_operation_35 (by decide) rfl ?_
  refine mv_lpick [6, 5, 4, 3, 2, 1, 0] rfl ?_
  exact lp37 _ _ _ _ _ _ _ _ r_g35 hf
def fF_Book_text_1_97 (P : Nat) (k97 : mv_H → Option (Option Int32 × mv_H)) (hz : mv_H) : Option (Option Int32 × mv_H) := if (mv_i hz P 4) = (0 : Int32) then (some (some 0, hz)) else (xhb (f_Book_is P hz 140) fun u2 g1 => if u2 = (0 : Int32) then (xhb (f_Book_is P g1 143) fun u4 g3 => if u4 = (0 : Int32) then (xhb (f_Book_is P g3 144) fun u6 g5 => if u6 = (0 : Int32) then (xhb (f_Book_is P g5 146) fun u8 g7 => if u8 = (0 : Int32) then (xk (mv_si g7 (P + 33) 0 (mv_i g7 P 5)) fun g9 => some (none, g9)) else (xtb (f_Book_operation P g7) fun u11 g10 => k97  g10)) else (xtb (f_Book_fetch P g5) fun u13 g12 => k97  g12)) else (xtb (f_Book_newThing P g3 (1 : Int32)) fun u15 g14 => k97  g14)) else (xtb (f_Book_newThing P g1 (0 : Int32)) fun u17 g16 => k97  g16))
def f_Book_text_1_97 (P : Nat) : Nat → mv_H → Option (Option Int32 × mv_H)
  | 0 => fun  _ => none
  | nn + 1 => fF_Book_text_1_97 P (f_Book_text_1_97 P nn)
def f_Book_text_1_81 (P : Nat) (x3 : Int32) (y0 : Int32) (hz : mv_H) : Option (Option Int32 × mv_H) := xk (mv_si hz P 20 y0) fun g18 => if (mv_i g18 P 20) = (0 : Int32) then (xhv (f_Book_fault P g18 (3 : Int32) x3) fun g19 => f_Book_text_1_97 P 200000  g19) else (f_Book_text_1_97 P 200000  g18)
def f_Book_text_1_75 (P : Nat) (x1 : Int64) (x3 : Int32) (hz : mv_H) : Option (Option Int32 × mv_H) := f_Book_text_1_81 P x3 ((x1).toInt32) hz
def f_Book_text_1 (P : Nat) (h : mv_H) : Option (Option Int32 × mv_H) := xk (mv_si h P 3 (0 : Int32)) fun g21 => xk (mv_si g21 P 8 (0 : Int32)) fun g22 => xtb (f_Book_next P g22) fun u24 g23 => xtb (f_Book_needWord P g23 139) fun u26 g25 => xtb (f_Book_need P g25 (2 : Int32)) fun u28 g27 => xtb (f_Book_need P g27 (59 : Int32)) fun u30 g29 => if (lg_cmp (mv_l g25 P 9) (8 : Int64)) = (0 : Int32) then (f_Book_text_1_75 P (mv_l g25 P 9) (mv_i g25 P 5) g29) else (if (lg_cmp (mv_l g25 P 9) (16 : Int64)) = (0 : Int32) then (f_Book_text_1_75 P (mv_l g25 P 9) (mv_i g25 P 5) g29) else (if (lg_cmp (mv_l g25 P 9) (32 : Int64)) = (0 : Int32) then (f_Book_text_1_75 P (mv_l g25 P 9) (mv_i g25 P 5) g29) else (if (lg_cmp (mv_l g25 P 9) (64 : Int64)) = (0 : Int32) then (f_Book_text_1_75 P (mv_l g25 P 9) (mv_i g25 P 5) g29) else (f_Book_text_1_81 P (mv_i g25 P 5) (0 : Int32) g29))))
set_option maxHeartbeats 4000000 in
set_option maxRecDepth 100000 in
theorem ch_Book_text_1_x (l : Launch) {dA : FieldType → ClassId} {D : va_G} {al : Nat → Nat} {ext : mv_Sh} {sk sv : Nat → Nat} (hi : mv_inj (mg dA D al ext)) (h : mv_H) (hb : Br 74 (mv_r h))  {rv : Option Int32} {rg : mv_H} (hf : f_Book_text_1 74 h = some (rv, rg)) : mv_C l y_Book_text_1 (Cond.code y_Book_text_1 b_Book_text_1 4 (Option.none : Option Jvm.ClassFile.FieldType) :: ma) ({ frames := 1083, cells := 0, slots := 0, locals := 65132 }) (mg dA D al ext) (mK sk sv) [.ref (al 74)] h (mv_Uv (fun σ1 => rv = some 0 ∧ rg = σ1 ∧ mv_r σ1 = mv_r h) ("MachineLoomModel$Book$Wrong", al 107) (fun σ1 => rv = none ∧ rg = σ1 ∧ mv_r σ1 = mv_r h)) := by
  refine mv_C.ofV (cc := b_Book_text_1) (nL := 4) (ret := (Option.none : Option Jvm.ClassFile.FieldType)) (by decide +kernel) rfl hi (Nat.le_of_ble_eq_true rfl) ?_
  intro p e s m below meth c B hNs hr hnm hno
  have lp97 : ∀ (nn97 : Nat) (hz : mv_H), mv_r hz = mv_r h → f_Book_text_1_97 74 nn97  hz = some (rv, rg) → mv_V p l e ({ frames := 1083, cells := 0, slots := 0, locals := 65132 }) s m ([.ref (al 74)] : List Value).toArray below meth c (mg dA D al ext) 4 0 0 (mv_Q (mg dA D al ext) below s 0 0 (mv_Uv (fun σ1 => rv = some 0 ∧ rg = σ1 ∧ mv_r σ1 = mv_r h) ("MachineLoomModel$Book$Wrong", al 107) (fun σ1 => rv = none ∧ rg = σ1 ∧ mv_r σ1 = mv_r h))) hz 97 [(0, .ref (al 74))] [] := by
    intro nn97
    induction nn97 with
    | zero => intro  hz r_hz hf; cases hf
    | succ nn97 ih97 =>
      intro  hz r_hz hf
      have hf : fF_Book_text_1_97 74 (f_Book_text_1_97 74 nn97)  hz = some (rv, rg) := hf
      unfold fF_Book_text_1_97 at hf
      refine mv_aload_n (pc := 97) B d_Book_text_1_97 rfl 0 rfl ?_
      refine mv_getI (pc := 98) (ci := 12) (C := R_Book) (T := F_Book) (N := 65) B 4 rfl rfl (by decide) i_Book (B.2.2.2.1 _ k_1847) rfl d_Book_text_1_98 ?_
      refine mv_if_eq (pc := 101) (tgt := 183) B d_Book_text_1_101 rfl (fun h101 => ?_) (fun h101 => ?_)
      · skip
        have hf := xif_t h101 hf
        exact mv_vret (pc := 183) B hr d_Book_text_1_183 (Nat.le_refl _) (Nat.le_refl _) (Or.inl ⟨rfl, xrt_i hf r_hz⟩)
      · skip
        have hf := xif_f h101 hf
        refine mv_aload_n (pc := 104) B d_Book_text_1_104 rfl 0 rfl ?_
        refine mv_ldcwS (pc := 105) B (hNs.2.1 140 (by decide)).1 d_Book_text_1_105 ?_
        obtain ⟨u2, g1, eg1, hf⟩ := xhb_e hf
        refine mv_callVi (pc := 108) (n := 1) (ci := 12) (C := R_Book) B (mK_ok sk sv) hNs rfl rfl (ch_Book_is_x l hi _ (xrw r_hz hb) _ (by decide) eg1) rfl (ma_goodc kc_Book_is) (B.2.2.2.1 _ k_2163) (B.2.2.2.1 _ k_2165) (B.2.2.2.1 _ ks_88) (B.2.2.2.1 _ k_13) ⟨by decide +kernel, by decide +kernel, by decide +kernel⟩ rfl d_Book_text_1_108 rfl (Nat.le_of_ble_eq_true rfl) ⟨by first | decide | (dsimp only; omega), by first | decide | (dsimp only; omega)⟩ ⟨Nat.le_refl _, Nat.le_refl _⟩ ⟨Nat.le_refl _, Nat.le_refl _⟩ (mv_noH hno _) (fun w108 σ108 h108 => ?_)
        obtain ⟨rfl, rfl, s_g1⟩ := h108
        have r_g1 : mv_r g1 = mv_r h := s_g1.trans r_hz
        refine mv_if_eq (pc := 111) (tgt := 122) B d_Book_text_1_111 rfl (fun h111 => ?_) (fun h111 => ?_)
        · skip
          have hf := xif_t h111 hf
          refine mv_aload_n (pc := 122) B d_Book_text_1_122 rfl 0 rfl ?_
          refine mv_ldcwS (pc := 123) B (hNs.2.1 143 (by decide)).1 d_Book_text_1_123 ?_
          obtain ⟨u4, g3, eg3, hf⟩ := xhb_e hf
          refine mv_callVi (pc := 126) (n := 1) (ci := 12) (C := R_Book) B (mK_ok sk sv) hNs rfl rfl (ch_Book_is_x l hi _ (xrw r_g1 hb) _ (by decide) eg3) rfl (ma_goodc kc_Book_is) (B.2.2.2.1 _ k_2163) (B.2.2.2.1 _ k_2165) (B.2.2.2.1 _ ks_88) (B.2.2.2.1 _ k_13) ⟨by decide +kernel, by decide +kernel, by decide +kernel⟩ rfl d_Book_text_1_126 rfl (Nat.le_of_ble_eq_true rfl) ⟨by first | decide | (dsimp only; omega), by first | decide | (dsimp only; omega)⟩ ⟨Nat.le_refl _, Nat.le_refl _⟩ ⟨Nat.le_refl _, Nat.le_refl _⟩ (mv_noH hno _) (fun w126 σ126 h126 => ?_)
          obtain ⟨rfl, rfl, s_g3⟩ := h126
          have r_g3 : mv_r g3 = mv_r h := s_g3.trans r_g1
          refine mv_if_eq (pc := 129) (tgt := 140) B d_Book_text_1_129 rfl (fun h129 => ?_) (fun h129 => ?_)
          · skip
            have hf := xif_t h129 hf
            refine mv_aload_n (pc := 140) B d_Book_text_1_140 rfl 0 rfl ?_
            refine mv_ldcwS (pc := 141) B (hNs.2.1 144 (by decide)).1 d_Book_text_1_141 ?_
            obtain ⟨u6, g5, eg5, hf⟩ := xhb_e hf
            refine mv_callVi (pc := 144) (n := 1) (ci := 12) (C := R_Book) B (mK_ok sk sv) hNs rfl rfl (ch_Book_is_x l hi _ (xrw r_g3 hb) _ (by decide) eg5) rfl (ma_goodc kc_Book_is) (B.2.2.2.1 _ k_2163) (B.2.2.2.1 _ k_2165) (B.2.2.2.1 _ ks_88) (B.2.2.2.1 _ k_13) ⟨by decide +kernel, by decide +kernel, by decide +kernel⟩ rfl d_Book_text_1_144 rfl (Nat.le_of_ble_eq_true rfl) ⟨by first | decide | (dsimp only; omega), by first | decide | (dsimp only; omega)⟩ ⟨Nat.le_refl _, Nat.le_refl _⟩ ⟨Nat.le_refl _, Nat.le_refl _⟩ (mv_noH hno _) (fun w144 σ144 h144 => ?_)
            obtain ⟨rfl, rfl, s_g5⟩ := h144
            have r_g5 : mv_r g5 = mv_r h := s_g5.trans r_g3
            refine mv_if_eq (pc := 147) (tgt := 157) B d_Book_text_1_147 rfl (fun h147 => ?_) (fun h147 => ?_)
            · skip
              have hf := xif_t h147 hf
              refine mv_aload_n (pc := 157) B d_Book_text_1_157 rfl 0 rfl ?_
              refine mv_ldcwS (pc := 158) B (hNs.2.1 146 (by decide)).1 d_Book_text_1_158 ?_
              obtain ⟨u8, g7, eg7, hf⟩ := xhb_e hf
              refine mv_callVi (pc := 161) (n := 1) (ci := 12) (C := R_Book) B (mK_ok sk sv) hNs rfl rfl (ch_Book_is_x l hi _ (xrw r_g5 hb) _ (by decide) eg7) rfl (ma_goodc kc_Book_is) (B.2.2.2.1 _ k_2163) (B.2.2.2.1 _ k_2165) (B.2.2.2.1 _ ks_88) (B.2.2.2.1 _ k_13) ⟨by decide +kernel, by decide +kernel, by decide +kernel⟩ rfl d_Book_text_1_161 rfl (Nat.le_of_ble_eq_true rfl) ⟨by first | decide | (dsimp only; omega), by first | decide | (dsimp only; omega)⟩ ⟨Nat.le_refl _, Nat.le_refl _⟩ ⟨Nat.le_refl _, Nat.le_refl _⟩ (mv_noH hno _) (fun w161 σ161 h161 => ?_)
              obtain ⟨rfl, rfl, s_g7⟩ := h161
              have r_g7 : mv_r g7 = mv_r h := s_g7.trans r_g5
              refine mv_if_eq (pc := 164) (tgt := 174) B d_Book_text_1_164 rfl (fun h164 => ?_) (fun h164 => ?_)
              · skip
                have hf := xif_t h164 hf
                refine mv_aload_n (pc := 174) B d_Book_text_1_174 rfl 0 rfl ?_
                refine mv_aload_n (pc := 175) B d_Book_text_1_175 rfl 0 rfl ?_
                refine mv_getI (pc := 176) (ci := 12) (C := R_Book) (T := F_Book) (N := 65) B 5 rfl rfl (by decide) i_Book (B.2.2.2.1 _ k_1848) rfl d_Book_text_1_176 ?_
                refine mv_callVr (pc := 179) (n := 1) (ci := 12) (C := R_Book) B (mK_ok sk sv) hNs rfl rfl (c_Book_wrongAt_x l hi _ _ (xrw r_g7 hb)) rfl (ma_goodc kc_Book_wrongAt) (B.2.2.2.1 _ k_2154) (B.2.2.2.1 _ k_2156) (B.2.2.2.1 _ ks_86) (B.2.2.2.1 _ k_13) ⟨by decide +kernel, by decide +kernel, by decide +kernel⟩ rfl d_Book_text_1_179 rfl (Nat.le_of_ble_eq_true rfl) ⟨by first | decide | (dsimp only; omega), by first | decide | (dsimp only; omega)⟩ ⟨Nat.le_refl _, Nat.le_refl _⟩ ⟨Nat.le_refl _, Nat.le_refl _⟩ (mv_noH hno _) (fun σ179 h179 => ?_)
                obtain ⟨-, h179⟩ := h179
                subst h179
                refine mvh_hp (R9 := mv_r h) hf r_g7 (fun g9 hf r_g9 => ?_)
                exact mv_athrowO (pc := 182) (o := 107) B rfl rfl (mv_noH hno _) d_Book_text_1_182 (Nat.le_refl _) (Nat.le_refl _) (Or.inr ⟨rfl, xrt_t hf r_g9⟩)
              · skip
                have hf := xif_f h164 hf
                refine mv_aload_n (pc := 167) B d_Book_text_1_167 rfl 0 rfl ?_
                obtain ⟨og10, g10, eg10, hf⟩ := xtb_e hf
                refine mv_callVUv (pc := 168) (n := 0) (ci := 12) (C := R_Book) B (mK_ok sk sv) hNs rfl rfl (ch_Book_operation_x l hi _ (xrw r_g7 hb) eg10) rfl (ma_goodc kc_Book_operation) (B.2.2.2.1 _ k_2228) (B.2.2.2.1 _ k_2230) (B.2.2.2.1 _ ks_100) (B.2.2.2.1 _ k_13) ⟨by decide +kernel, by decide +kernel, by decide +kernel⟩ rfl d_Book_text_1_168 rfl (Nat.le_of_ble_eq_true rfl) ⟨by first | decide | (dsimp only; omega), by first | decide | (dsimp only; omega)⟩ ⟨Nat.le_refl _, Nat.le_refl _⟩ ⟨Nat.le_refl _, Nat.le_refl _⟩ (mv_noH hno _) (fun τ9 g9 => Or.inr ⟨rfl, xth hf g9 r_g7⟩) (fun σ168 h168 => ?_)
                obtain ⟨rfl, rfl, s_g10⟩ := h168
                have hf := xt2_s hf
                have r_g10 : mv_r g10 = mv_r h := s_g10.trans r_g7
                refine mv_goto (pc := 171) (tgt := 97) B d_Book_text_1_171 rfl ?_
                refine mv_lpick [0] rfl ?_
                exact ih97  _ r_g10 hf
            · skip
              have hf := xif_f h147 hf
              refine mv_aload_n (pc := 150) B d_Book_text_1_150 rfl 0 rfl ?_
              obtain ⟨og12, g12, eg12, hf⟩ := xtb_e hf
              refine mv_callVUv (pc := 151) (n := 0) (ci := 12) (C := R_Book) B (mK_ok sk sv) hNs rfl rfl (ch_Book_fetch_x l hi _ (xrw r_g5 hb) eg12) rfl (ma_goodc kc_Book_fetch) (B.2.2.2.1 _ k_2222) (B.2.2.2.1 _ k_2224) (B.2.2.2.1 _ ks_99) (B.2.2.2.1 _ k_13) ⟨by decide +kernel, by decide +kernel, by decide +kernel⟩ rfl d_Book_text_1_151 rfl (Nat.le_of_ble_eq_true rfl) ⟨by first | decide | (dsimp only; omega), by first | decide | (dsimp only; omega)⟩ ⟨Nat.le_refl _, Nat.le_refl _⟩ ⟨Nat.le_refl _, Nat.le_refl _⟩ (mv_noH hno _) (fun τ9 g9 => Or.inr ⟨rfl, xth hf g9 r_g5⟩) (fun σ151 h151 => ?_)
              obtain ⟨rfl, rfl, s_g12⟩ := h151
              have hf := xt2_s hf
              have r_g12 : mv_r g12 = mv_r h := s_g12.trans r_g5
              refine mv_goto (pc := 154) (tgt := 97) B d_Book_text_1_154 rfl ?_
              refine mv_lpick [0] rfl ?_
              exact ih97  _ r_g12 hf
          · skip
            have hf := xif_f h129 hf
            refine mv_aload_n (pc := 132) B d_Book_text_1_132 rfl 0 rfl ?_
            refine mv_iconst (pc := 133) (v := 1) B d_Book_text_1_133 (by decide) ?_
            obtain ⟨og14, g14, eg14, hf⟩ := xtb_e hf
            refine mv_callVUv (pc := 134) (n := 1) (ci := 12) (C := R_Book) B (mK_ok sk sv) hNs rfl rfl (ch_Book_newThing_x l hi _ (xrw r_g3 hb) _ eg14) rfl (ma_goodc kc_Book_newThing) (B.2.2.2.1 _ k_2190) (B.2.2.2.1 _ k_2192) (B.2.2.2.1 _ ks_93) (B.2.2.2.1 _ k_13) ⟨by decide +kernel, by decide +kernel, by decide +kernel⟩ rfl d_Book_text_1_134 rfl (Nat.le_of_ble_eq_true rfl) ⟨by first | decide | (dsimp only; omega), by first | decide | (dsimp only; omega)⟩ ⟨Nat.le_refl _, Nat.le_refl _⟩ ⟨Nat.le_refl _, Nat.le_refl _⟩ (mv_noH hno _) (fun τ9 g9 => Or.inr ⟨rfl, xth hf g9 r_g3⟩) (fun σ134 h134 => ?_)
            obtain ⟨rfl, rfl, s_g14⟩ := h134
            have hf := xt2_s hf
            have r_g14 : mv_r g14 = mv_r h := s_g14.trans r_g3
            refine mv_goto (pc := 137) (tgt := 97) B d_Book_text_1_137 rfl ?_
            refine mv_lpick [0] rfl ?_
            exact ih97  _ r_g14 hf
        · skip
          have hf := xif_f h111 hf
          refine mv_aload_n (pc := 114) B d_Book_text_1_114 rfl 0 rfl ?_
          refine mv_iconst (pc := 115) (v := 0) B d_Book_text_1_115 (by decide) ?_
          obtain ⟨og16, g16, eg16, hf⟩ := xtb_e hf
          refine mv_callVUv (pc := 116) (n := 1) (ci := 12) (C := R_Book) B (mK_ok sk sv) hNs rfl rfl (ch_Book_newThing_x l hi _ (xrw r_g1 hb) _ eg16) rfl (ma_goodc kc_Book_newThing) (B.2.2.2.1 _ k_2190) (B.2.2.2.1 _ k_2192) (B.2.2.2.1 _ ks_93) (B.2.2.2.1 _ k_13) ⟨by decide +kernel, by decide +kernel, by decide +kernel⟩ rfl d_Book_text_1_116 rfl (Nat.le_of_ble_eq_true rfl) ⟨by first | decide | (dsimp only; omega), by first | decide | (dsimp only; omega)⟩ ⟨Nat.le_refl _, Nat.le_refl _⟩ ⟨Nat.le_refl _, Nat.le_refl _⟩ (mv_noH hno _) (fun τ9 g9 => Or.inr ⟨rfl, xth hf g9 r_g1⟩) (fun σ116 h116 => ?_)
          obtain ⟨rfl, rfl, s_g16⟩ := h116
          have hf := xt2_s hf
          have r_g16 : mv_r g16 = mv_r h := s_g16.trans r_g1
          refine mv_goto (pc := 119) (tgt := 97) B d_Book_text_1_119 rfl ?_
          refine mv_lpick [0] rfl ?_
          exact ih97  _ r_g16 hf
  have jn81 : ∀ (x3 : Int32) (y0 : Int32) (hz : mv_H), mv_r hz = mv_r h → f_Book_text_1_81 74 x3 y0 hz = some (rv, rg) → mv_V p l e ({ frames := 1083, cells := 0, slots := 0, locals := 65132 }) s m ([.ref (al 74)] : List Value).toArray below meth c (mg dA D al ext) 4 0 0 (mv_Q (mg dA D al ext) below s 0 0 (mv_Uv (fun σ1 => rv = some 0 ∧ rg = σ1 ∧ mv_r σ1 = mv_r h) ("MachineLoomModel$Book$Wrong", al 107) (fun σ1 => rv = none ∧ rg = σ1 ∧ mv_r σ1 = mv_r h))) hz 81 [(0, .ref (al 74)), (3, .int x3)] [.int y0, .ref (al 74)] := by
    intro x3 y0 hz r_hz hf
    unfold f_Book_text_1_81 at hf
    refine mv_putI (pc := 81) (ci := 12) (C := R_Book) (T := F_Book) (N := 65) B 20 rfl rfl (by decide) i_Book t_Book_ok n_Book (B.2.2.2.1 _ k_1865) rfl rfl rfl rfl d_Book_text_1_81 ?_
    refine mvh_hp (R9 := mv_r h) hf r_hz (fun g18 hf r_g18 => ?_)
    refine mv_aload_n (pc := 84) B d_Book_text_1_84 rfl 0 rfl ?_
    refine mv_getI (pc := 85) (ci := 12) (C := R_Book) (T := F_Book) (N := 65) B 20 rfl rfl (by decide) i_Book (B.2.2.2.1 _ k_1865) rfl d_Book_text_1_85 ?_
    refine mv_if_ne (pc := 88) (tgt := 97) B d_Book_text_1_88 rfl (fun h88 => ?_) (fun h88 => ?_)
    · skip
      have hf := xif_f h88 hf
      refine mv_lpick [0] rfl ?_
      exact lp97 _  _ r_g18 hf
    · skip
      have hf := xif_t h88 hf
      refine mv_aload_n (pc := 91) B d_Book_text_1_91 rfl 0 rfl ?_
      refine mv_iconst (pc := 92) (v := 3) B d_Book_text_1_92 (by decide) ?_
      refine mv_iload_n (pc := 93) B d_Book_text_1_93 rfl 1 rfl ?_
      obtain ⟨g19, eg19, hf⟩ := xhv_e hf
      refine mv_callVv (pc := 94) (n := 2) (ci := 12) (C := R_Book) B (mK_ok sk sv) hNs rfl rfl (ch_Book_fault_x l hi _ _ _ eg19) rfl (ma_goodc kc_Book_fault) (B.2.2.2.1 _ k_2185) (B.2.2.2.1 _ k_2187) (B.2.2.2.1 _ ks_92) (B.2.2.2.1 _ k_13) ⟨by decide +kernel, by decide +kernel, by decide +kernel⟩ rfl d_Book_text_1_94 rfl (Nat.le_of_ble_eq_true rfl) ⟨by first | decide | (dsimp only; omega), by first | decide | (dsimp only; omega)⟩ ⟨Nat.le_refl _, Nat.le_refl _⟩ ⟨Nat.le_refl _, Nat.le_refl _⟩ (mv_noH hno _) (fun σ94 h94 => ?_)
      obtain ⟨rfl, s_g19⟩ := h94
      have r_g19 : mv_r g19 = mv_r h := s_g19.trans r_g18
      refine mv_lpick [0] rfl ?_
      exact lp97 _  _ r_g19 hf
  have jn75 : ∀ (x1 : Int64) (x3 : Int32) (hz : mv_H), mv_r hz = mv_r h → f_Book_text_1_75 74 x1 x3 hz = some (rv, rg) → mv_V p l e ({ frames := 1083, cells := 0, slots := 0, locals := 65132 }) s m ([.ref (al 74)] : List Value).toArray below meth c (mg dA D al ext) 4 0 0 (mv_Q (mg dA D al ext) below s 0 0 (mv_Uv (fun σ1 => rv = some 0 ∧ rg = σ1 ∧ mv_r σ1 = mv_r h) ("MachineLoomModel$Book$Wrong", al 107) (fun σ1 => rv = none ∧ rg = σ1 ∧ mv_r σ1 = mv_r h))) hz 75 [(0, .ref (al 74)), (1, .long x1), (3, .int x3)] [.ref (al 74)] := by
    intro x1 x3 hz r_hz hf
    unfold f_Book_text_1_75 at hf
    refine mv_lload_n (pc := 75) B d_Book_text_1_75 rfl 1 rfl ?_
    refine mv_l2i (pc := 76) B d_Book_text_1_76 ?_
    refine mv_goto (pc := 77) (tgt := 81) B d_Book_text_1_77 rfl ?_
    refine mv_lpick [0, 2] rfl ?_
    exact jn81 _ _ _ r_hz hf
  unfold f_Book_text_1 at hf
  refine mv_aload_n (pc := 0) B d_Book_text_1_0 rfl 0 rfl ?_
  refine mv_iconst (pc := 1) (v := 0) B d_Book_text_1_1 (by decide) ?_
  refine mv_putI (pc := 2) (ci := 12) (C := R_Book) (T := F_Book) (N := 65) B 3 rfl rfl (by decide) i_Book t_Book_ok n_Book (B.2.2.2.1 _ k_1846) rfl rfl rfl rfl d_Book_text_1_2 ?_
  refine mvh_hp (R9 := mv_r h) hf rfl (fun g21 hf r_g21 => ?_)
  refine mv_aload_n (pc := 5) B d_Book_text_1_5 rfl 0 rfl ?_
  refine mv_iconst (pc := 6) (v := 0) B d_Book_text_1_6 (by decide) ?_
  refine mv_putI (pc := 7) (ci := 12) (C := R_Book) (T := F_Book) (N := 65) B 8 rfl rfl (by decide) i_Book t_Book_ok n_Book (B.2.2.2.1 _ k_1851) rfl rfl rfl rfl d_Book_text_1_7 ?_
  refine mvh_hp (R9 := mv_r h) hf r_g21 (fun g22 hf r_g22 => ?_)
  refine mv_aload_n (pc := 10) B d_Book_text_1_10 rfl 0 rfl ?_
  obtain ⟨og23, g23, eg23, hf⟩ := xtb_e hf
  refine mv_callVUv (pc := 11) (n := 0) (ci := 12) (C := R_Book) B (mK_ok sk sv) hNs rfl rfl (ch_Book_next_x l hi _ (xrw r_g22 hb) eg23) rfl (ma_goodc kc_Book_next) (B.2.2.2.1 _ k_2114) (B.2.2.2.1 _ k_2116) (B.2.2.2.1 _ ks_80) (B.2.2.2.1 _ k_13) ⟨by decide +kernel, by decide +kernel, by decide +kernel⟩ rfl d_Book_text_1_11 rfl (Nat.le_of_ble_eq_true rfl) ⟨by first | decide | (dsimp only; omega), by first | decide | (dsimp only; omega)⟩ ⟨Nat.le_refl _, Nat.le_refl _⟩ ⟨Nat.le_refl _, Nat.le_refl _⟩ (mv_noH hno _) (fun τ9 g9 => Or.inr ⟨rfl, xth hf g9 r_g22⟩) (fun σ11 h11 => ?_)
  obtain ⟨rfl, rfl, s_g23⟩ := h11
  have hf := xt2_s hf
  have r_g23 : mv_r g23 = mv_r h := s_g23.trans r_g22
  refine mv_aload_n (pc := 14) B d_Book_text_1_14 rfl 0 rfl ?_
  refine mv_ldcwS (pc := 15) B (hNs.2.1 139 (by decide)).1 d_Book_text_1_15 ?_
  obtain ⟨og25, g25, eg25, hf⟩ := xtb_e hf
  refine mv_callVUv (pc := 18) (n := 1) (ci := 12) (C := R_Book) B (mK_ok sk sv) hNs rfl rfl (ch_Book_needWord_x l hi _ (xrw r_g23 hb) _ (by decide) eg25) rfl (ma_goodc kc_Book_needWord) (B.2.2.2.1 _ k_2159) (B.2.2.2.1 _ k_2161) (B.2.2.2.1 _ ks_87) (B.2.2.2.1 _ k_13) ⟨by decide +kernel, by decide +kernel, by decide +kernel⟩ rfl d_Book_text_1_18 rfl (Nat.le_of_ble_eq_true rfl) ⟨by first | decide | (dsimp only; omega), by first | decide | (dsimp only; omega)⟩ ⟨Nat.le_refl _, Nat.le_refl _⟩ ⟨Nat.le_refl _, Nat.le_refl _⟩ (mv_noH hno _) (fun τ9 g9 => Or.inr ⟨rfl, xth hf g9 r_g23⟩) (fun σ18 h18 => ?_)
  obtain ⟨rfl, rfl, s_g25⟩ := h18
  have hf := xt2_s hf
  have r_g25 : mv_r g25 = mv_r h := s_g25.trans r_g23
  refine mv_aload_n (pc := 21) B d_Book_text_1_21 rfl 0 rfl ?_
  refine mv_getL (pc := 22) (ci := 12) (C := R_Book) (T := F_Book) (N := 65) B 9 rfl rfl (by decide) i_Book (B.2.2.2.1 _ k_1852) rfl d_Book_text_1_22 ?_
  refine mv_lstore_n (pc := 25) B d_Book_text_1_25 rfl (by decide) rfl ?_
  refine mv_aload_n (pc := 26) B d_Book_text_1_26 rfl 1 rfl ?_
  refine mv_getI (pc := 27) (ci := 12) (C := R_Book) (T := F_Book) (N := 65) B 5 rfl rfl (by decide) i_Book (B.2.2.2.1 _ k_1848) rfl d_Book_text_1_27 ?_
  refine mv_istore_n (pc := 30) B d_Book_text_1_30 rfl (by decide) rfl ?_
  refine mv_aload_n (pc := 31) B d_Book_text_1_31 rfl 2 rfl ?_
  refine mv_iconst (pc := 32) (v := 2) B d_Book_text_1_32 (by decide) ?_
  obtain ⟨og27, g27, eg27, hf⟩ := xtb_e hf
  refine mv_callVUv (pc := 33) (n := 1) (ci := 12) (C := R_Book) B (mK_ok sk sv) hNs rfl rfl (ch_Book_need_x l hi _ (xrw r_g25 hb) _ eg27) rfl (ma_goodc kc_Book_need) (B.2.2.2.1 _ k_2177) (B.2.2.2.1 _ k_2179) (B.2.2.2.1 _ ks_91) (B.2.2.2.1 _ k_13) ⟨by decide +kernel, by decide +kernel, by decide +kernel⟩ rfl d_Book_text_1_33 rfl (Nat.le_of_ble_eq_true rfl) ⟨by first | decide | (dsimp only; omega), by first | decide | (dsimp only; omega)⟩ ⟨Nat.le_refl _, Nat.le_refl _⟩ ⟨Nat.le_refl _, Nat.le_refl _⟩ (mv_noH hno _) (fun τ9 g9 => Or.inr ⟨rfl, xth hf g9 r_g25⟩) (fun σ33 h33 => ?_)
  obtain ⟨rfl, rfl, s_g27⟩ := h33
  have hf := xt2_s hf
  have r_g27 : mv_r g27 = mv_r h := s_g27.trans r_g25
  refine mv_aload_n (pc := 36) B d_Book_text_1_36 rfl 2 rfl ?_
  refine mv_bipush (pc := 37) (v := 59) B d_Book_text_1_37 (by decide) ?_
  obtain ⟨og29, g29, eg29, hf⟩ := xtb_e hf
  refine mv_callVUv (pc := 39) (n := 1) (ci := 12) (C := R_Book) B (mK_ok sk sv) hNs rfl rfl (ch_Book_need_x l hi _ (xrw r_g27 hb) _ eg29) rfl (ma_goodc kc_Book_need) (B.2.2.2.1 _ k_2177) (B.2.2.2.1 _ k_2179) (B.2.2.2.1 _ ks_91) (B.2.2.2.1 _ k_13) ⟨by decide +kernel, by decide +kernel, by decide +kernel⟩ rfl d_Book_text_1_39 rfl (Nat.le_of_ble_eq_true rfl) ⟨by first | decide | (dsimp only; omega), by first | decide | (dsimp only; omega)⟩ ⟨Nat.le_refl _, Nat.le_refl _⟩ ⟨Nat.le_refl _, Nat.le_refl _⟩ (mv_noH hno _) (fun τ9 g9 => Or.inr ⟨rfl, xth hf g9 r_g27⟩) (fun σ39 h39 => ?_)
  obtain ⟨rfl, rfl, s_g29⟩ := h39
  have hf := xt2_s hf
  have r_g29 : mv_r g29 = mv_r h := s_g29.trans r_g27
  refine mv_aload_n (pc := 42) B d_Book_text_1_42 rfl 2 rfl ?_
  refine mv_lload_n (pc := 43) B d_Book_text_1_43 rfl 1 rfl ?_
  refine mv_ldc2 (pc := 44) (v := 8) B (B.2.2.2.1 _ k_2181) d_Book_text_1_44 ?_
  refine mv_lcmp (pc := 47) B d_Book_text_1_47 ?_
  refine mv_if_eq (pc := 48) (tgt := 75) B d_Book_text_1_48 rfl (fun h48 => ?_) (fun h48 => ?_)
  · skip
    have hf := xif_t h48 hf
    refine mv_lpick [2, 1, 0] rfl ?_
    exact jn75 _ _ _ r_g29 hf
  · skip
    have hf := xif_f h48 hf
    refine mv_lload_n (pc := 51) B d_Book_text_1_51 rfl 1 rfl ?_
    refine mv_ldc2 (pc := 52) (v := 16) B (B.2.2.2.1 _ k_2182) d_Book_text_1_52 ?_
    refine mv_lcmp (pc := 55) B d_Book_text_1_55 ?_
    refine mv_if_eq (pc := 56) (tgt := 75) B d_Book_text_1_56 rfl (fun h56 => ?_) (fun h56 => ?_)
    · skip
      have hf := xif_t h56 hf
      refine mv_lpick [2, 1, 0] rfl ?_
      exact jn75 _ _ _ r_g29 hf
    · skip
      have hf := xif_f h56 hf
      refine mv_lload_n (pc := 59) B d_Book_text_1_59 rfl 1 rfl ?_
      refine mv_ldc2 (pc := 60) (v := 32) B (B.2.2.2.1 _ k_2183) d_Book_text_1_60 ?_
      refine mv_lcmp (pc := 63) B d_Book_text_1_63 ?_
      refine mv_if_eq (pc := 64) (tgt := 75) B d_Book_text_1_64 rfl (fun h64 => ?_) (fun h64 => ?_)
      · skip
        have hf := xif_t h64 hf
        refine mv_lpick [2, 1, 0] rfl ?_
        exact jn75 _ _ _ r_g29 hf
      · skip
        have hf := xif_f h64 hf
        refine mv_lload_n (pc := 67) B d_Book_text_1_67 rfl 1 rfl ?_
        refine mv_ldc2 (pc := 68) (v := 64) B (B.2.2.2.1 _ k_2184) d_Book_text_1_68 ?_
        refine mv_lcmp (pc := 71) B d_Book_text_1_71 ?_
        refine mv_if_ne (pc := 72) (tgt := 80) B d_Book_text_1_72 rfl (fun h72 => ?_) (fun h72 => ?_)
        · skip
          have hf := xif_f h72 hf
          refine mv_iconst (pc := 80) (v := 0) B d_Book_text_1_80 (by decide) ?_
          refine mv_lpick [2, 0] rfl ?_
          exact jn81 _ _ _ r_g29 hf
        · skip
          have hf := xif_t h72 hf
          refine mv_lpick [2, 1, 0] rfl ?_
          exact jn75 _ _ _ r_g29 hf
set_option maxHeartbeats 4000000 in
set_option maxRecDepth 100000 in
theorem ch_Book_text_1_y (l : Launch) {dA : FieldType → ClassId} {D : va_G} {al : Nat → Nat} {ext : mv_Sh} {sk sv : Nat → Nat} (hi : mv_inj (mg dA D al ext)) (h : mv_H) (hb : Br 108 (mv_r h))  {rv : Option Int32} {rg : mv_H} (hf : f_Book_text_1 108 h = some (rv, rg)) : mv_C l y_Book_text_1 (Cond.code y_Book_text_1 b_Book_text_1 4 (Option.none : Option Jvm.ClassFile.FieldType) :: ma) ({ frames := 1083, cells := 0, slots := 0, locals := 65132 }) (mg dA D al ext) (mK sk sv) [.ref (al 108)] h (mv_Uv (fun σ1 => rv = some 0 ∧ rg = σ1 ∧ mv_r σ1 = mv_r h) ("MachineLoomModel$Book$Wrong", al 141) (fun σ1 => rv = none ∧ rg = σ1 ∧ mv_r σ1 = mv_r h)) := by
  refine mv_C.ofV (cc := b_Book_text_1) (nL := 4) (ret := (Option.none : Option Jvm.ClassFile.FieldType)) (by decide +kernel) rfl hi (Nat.le_of_ble_eq_true rfl) ?_
  intro p e s m below meth c B hNs hr hnm hno
  have lp97 : ∀ (nn97 : Nat) (hz : mv_H), mv_r hz = mv_r h → f_Book_text_1_97 108 nn97  hz = some (rv, rg) → mv_V p l e ({ frames := 1083, cells := 0, slots := 0, locals := 65132 }) s m ([.ref (al 108)] : List Value).toArray below meth c (mg dA D al ext) 4 0 0 (mv_Q (mg dA D al ext) below s 0 0 (mv_Uv (fun σ1 => rv = some 0 ∧ rg = σ1 ∧ mv_r σ1 = mv_r h) ("MachineLoomModel$Book$Wrong", al 141) (fun σ1 => rv = none ∧ rg = σ1 ∧ mv_r σ1 = mv_r h))) hz 97 [(0, .ref (al 108))] [] := by
    intro nn97
    induction nn97 with
    | zero => intro  hz r_hz hf; cases hf
    | succ nn97 ih97 =>
      intro  hz r_hz hf
      have hf : fF_Book_text_1_97 108 (f_Book_text_1_97 108 nn97)  hz = some (rv, rg) := hf
      unfold fF_Book_text_1_97 at hf
      refine mv_aload_n (pc := 97) B d_Book_text_1_97 rfl 0 rfl ?_
      refine mv_getI (pc := 98) (ci := 12) (C := R_Book) (T := F_Book) (N := 65) B 4 rfl rfl (by decide) i_Book (B.2.2.2.1 _ k_1847) rfl d_Book_text_1_98 ?_
      refine mv_if_eq (pc := 101) (tgt := 183) B d_Book_text_1_101 rfl (fun h101 => ?_) (fun h101 => ?_)
      · skip
        have hf := xif_t h101 hf
        exact mv_vret (pc := 183) B hr d_Book_text_1_183 (Nat.le_refl _) (Nat.le_refl _) (Or.inl ⟨rfl, xrt_i hf r_hz⟩)
      · skip
        have hf := xif_f h101 hf
        refine mv_aload_n (pc := 104) B d_Book_text_1_104 rfl 0 rfl ?_
        refine mv_ldcwS (pc := 105) B (hNs.2.1 140 (by decide)).1 d_Book_text_1_105 ?_
        obtain ⟨u2, g1, eg1, hf⟩ := xhb_e hf
        refine mv_callVi (pc := 108) (n := 1) (ci := 12) (C := R_Book) B (mK_ok sk sv) hNs rfl rfl (ch_Book_is_y l hi _ (xrw r_hz hb) _ (by decide) eg1) rfl (ma_goodc kc_Book_is) (B.2.2.2.1 _ k_2163) (B.2.2.2.1 _ k_2165) (B.2.2.2.1 _ ks_88) (B.2.2.2.1 _ k_13) ⟨by decide +kernel, by decide +kernel, by decide +kernel⟩ rfl d_Book_text_1_108 rfl (Nat.le_of_ble_eq_true rfl) ⟨by first | decide | (dsimp only; omega), by first | decide | (dsimp only; omega)⟩ ⟨Nat.le_refl _, Nat.le_refl _⟩ ⟨Nat.le_refl _, Nat.le_refl _⟩ (mv_noH hno _) (fun w108 σ108 h108 => ?_)
        obtain ⟨rfl, rfl, s_g1⟩ := h108
        have r_g1 : mv_r g1 = mv_r h := s_g1.trans r_hz
        refine mv_if_eq (pc := 111) (tgt := 122) B d_Book_text_1_111 rfl (fun h111 => ?_) (fun h111 => ?_)
        · skip
          have hf := xif_t h111 hf
          refine mv_aload_n (pc := 122) B d_Book_text_1_122 rfl 0 rfl ?_
          refine mv_ldcwS (pc := 123) B (hNs.2.1 143 (by decide)).1 d_Book_text_1_123 ?_
          obtain ⟨u4, g3, eg3, hf⟩ := xhb_e hf
          refine mv_callVi (pc := 126) (n := 1) (ci := 12) (C := R_Book) B (mK_ok sk sv) hNs rfl rfl (ch_Book_is_y l hi _ (xrw r_g1 hb) _ (by decide) eg3) rfl (ma_goodc kc_Book_is) (B.2.2.2.1 _ k_2163) (B.2.2.2.1 _ k_2165) (B.2.2.2.1 _ ks_88) (B.2.2.2.1 _ k_13) ⟨by decide +kernel, by decide +kernel, by decide +kernel⟩ rfl d_Book_text_1_126 rfl (Nat.le_of_ble_eq_true rfl) ⟨by first | decide | (dsimp only; omega), by first | decide | (dsimp only; omega)⟩ ⟨Nat.le_refl _, Nat.le_refl _⟩ ⟨Nat.le_refl _, Nat.le_refl _⟩ (mv_noH hno _) (fun w126 σ126 h126 => ?_)
          obtain ⟨rfl, rfl, s_g3⟩ := h126
          have r_g3 : mv_r g3 = mv_r h := s_g3.trans r_g1
          refine mv_if_eq (pc := 129) (tgt := 140) B d_Book_text_1_129 rfl (fun h129 => ?_) (fun h129 => ?_)
          · skip
            have hf := xif_t h129 hf
            refine mv_aload_n (pc := 140) B d_Book_text_1_140 rfl 0 rfl ?_
            refine mv_ldcwS (pc := 141) B (hNs.2.1 144 (by decide)).1 d_Book_text_1_141 ?_
            obtain ⟨u6, g5, eg5, hf⟩ := xhb_e hf
            refine mv_callVi (pc := 144) (n := 1) (ci := 12) (C := R_Book) B (mK_ok sk sv) hNs rfl rfl (ch_Book_is_y l hi _ (xrw r_g3 hb) _ (by decide) eg5) rfl (ma_goodc kc_Book_is) (B.2.2.2.1 _ k_2163) (B.2.2.2.1 _ k_2165) (B.2.2.2.1 _ ks_88) (B.2.2.2.1 _ k_13) ⟨by decide +kernel, by decide +kernel, by decide +kernel⟩ rfl d_Book_text_1_144 rfl (Nat.le_of_ble_eq_true rfl) ⟨by first | decide | (dsimp only; omega), by first | decide | (dsimp only; omega)⟩ ⟨Nat.le_refl _, Nat.le_refl _⟩ ⟨Nat.le_refl _, Nat.le_refl _⟩ (mv_noH hno _) (fun w144 σ144 h144 => ?_)
            obtain ⟨rfl, rfl, s_g5⟩ := h144
            have r_g5 : mv_r g5 = mv_r h := s_g5.trans r_g3
            refine mv_if_eq (pc := 147) (tgt := 157) B d_Book_text_1_147 rfl (fun h147 => ?_) (fun h147 => ?_)
            · skip
              have hf := xif_t h147 hf
              refine mv_aload_n (pc := 157) B d_Book_text_1_157 rfl 0 rfl ?_
              refine mv_ldcwS (pc := 158) B (hNs.2.1 146 (by decide)).1 d_Book_text_1_158 ?_
              obtain ⟨u8, g7, eg7, hf⟩ := xhb_e hf
              refine mv_callVi (pc := 161) (n := 1) (ci := 12) (C := R_Book) B (mK_ok sk sv) hNs rfl rfl (ch_Book_is_y l hi _ (xrw r_g5 hb) _ (by decide) eg7) rfl (ma_goodc kc_Book_is) (B.2.2.2.1 _ k_2163) (B.2.2.2.1 _ k_2165) (B.2.2.2.1 _ ks_88) (B.2.2.2.1 _ k_13) ⟨by decide +kernel, by decide +kernel, by decide +kernel⟩ rfl d_Book_text_1_161 rfl (Nat.le_of_ble_eq_true rfl) ⟨by first | decide | (dsimp only; omega), by first | decide | (dsimp only; omega)⟩ ⟨Nat.le_refl _, Nat.le_refl _⟩ ⟨Nat.le_refl _, Nat.le_refl _⟩ (mv_noH hno _) (fun w161 σ161 h161 => ?_)
              obtain ⟨rfl, rfl, s_g7⟩ := h161
              have r_g7 : mv_r g7 = mv_r h := s_g7.trans r_g5
              refine mv_if_eq (pc := 164) (tgt := 174) B d_Book_text_1_164 rfl (fun h164 => ?_) (fun h164 => ?_)
              · skip
                have hf := xif_t h164 hf
                refine mv_aload_n (pc := 174) B d_Book_text_1_174 rfl 0 rfl ?_
                refine mv_aload_n (pc := 175) B d_Book_text_1_175 rfl 0 rfl ?_
                refine mv_getI (pc := 176) (ci := 12) (C := R_Book) (T := F_Book) (N := 65) B 5 rfl rfl (by decide) i_Book (B.2.2.2.1 _ k_1848) rfl d_Book_text_1_176 ?_
                refine mv_callVr (pc := 179) (n := 1) (ci := 12) (C := R_Book) B (mK_ok sk sv) hNs rfl rfl (c_Book_wrongAt_y l hi _ _ (xrw r_g7 hb)) rfl (ma_goodc kc_Book_wrongAt) (B.2.2.2.1 _ k_2154) (B.2.2.2.1 _ k_2156) (B.2.2.2.1 _ ks_86) (B.2.2.2.1 _ k_13) ⟨by decide +kernel, by decide +kernel, by decide +kernel⟩ rfl d_Book_text_1_179 rfl (Nat.le_of_ble_eq_true rfl) ⟨by first | decide | (dsimp only; omega), by first | decide | (dsimp only; omega)⟩ ⟨Nat.le_refl _, Nat.le_refl _⟩ ⟨Nat.le_refl _, Nat.le_refl _⟩ (mv_noH hno _) (fun σ179 h179 => ?_)
                obtain ⟨-, h179⟩ := h179
                subst h179
                refine mvh_hp (R9 := mv_r h) hf r_g7 (fun g9 hf r_g9 => ?_)
                exact mv_athrowO (pc := 182) (o := 141) B rfl rfl (mv_noH hno _) d_Book_text_1_182 (Nat.le_refl _) (Nat.le_refl _) (Or.inr ⟨rfl, xrt_t hf r_g9⟩)
              · skip
                have hf := xif_f h164 hf
                refine mv_aload_n (pc := 167) B d_Book_text_1_167 rfl 0 rfl ?_
                obtain ⟨og10, g10, eg10, hf⟩ := xtb_e hf
                refine mv_callVUv (pc := 168) (n := 0) (ci := 12) (C := R_Book) B (mK_ok sk sv) hNs rfl rfl (ch_Book_operation_y l hi _ (xrw r_g7 hb) eg10) rfl (ma_goodc kc_Book_operation) (B.2.2.2.1 _ k_2228) (B.2.2.2.1 _ k_2230) (B.2.2.2.1 _ ks_100) (B.2.2.2.1 _ k_13) ⟨by decide +kernel, by decide +kernel, by decide +kernel⟩ rfl d_Book_text_1_168 rfl (Nat.le_of_ble_eq_true rfl) ⟨by first | decide | (dsimp only; omega), by first | decide | (dsimp only; omega)⟩ ⟨Nat.le_refl _, Nat.le_refl _⟩ ⟨Nat.le_refl _, Nat.le_refl _⟩ (mv_noH hno _) (fun τ9 g9 => Or.inr ⟨rfl, xth hf g9 r_g7⟩) (fun σ168 h168 => ?_)
                obtain ⟨rfl, rfl, s_g10⟩ := h168
                have hf := xt2_s hf
                have r_g10 : mv_r g10 = mv_r h := s_g10.trans r_g7
                refine mv_goto (pc := 171) (tgt := 97) B d_Book_text_1_171 rfl ?_
                refine mv_lpick [0] rfl ?_
                exact ih97  _ r_g10 hf
            · skip
              have hf := xif_f h147 hf
              refine mv_aload_n (pc := 150) B d_Book_text_1_150 rfl 0 rfl ?_
              obtain ⟨og12, g12, eg12, hf⟩ := xtb_e hf
              refine mv_callVUv (pc := 151) (n := 0) (ci := 12) (C := R_Book) B (mK_ok sk sv) hNs rfl rfl (ch_Book_fetch_y l hi _ (xrw r_g5 hb) eg12) rfl (ma_goodc kc_Book_fetch) (B.2.2.2.1 _ k_2222) (B.2.2.2.1 _ k_2224) (B.2.2.2.1 _ ks_99) (B.2.2.2.1 _ k_13) ⟨by decide +kernel, by decide +kernel, by decide +kernel⟩ rfl d_Book_text_1_151 rfl (Nat.le_of_ble_eq_true rfl) ⟨by first | decide | (dsimp only; omega), by first | decide | (dsimp only; omega)⟩ ⟨Nat.le_refl _, Nat.le_refl _⟩ ⟨Nat.le_refl _, Nat.le_refl _⟩ (mv_noH hno _) (fun τ9 g9 => Or.inr ⟨rfl, xth hf g9 r_g5⟩) (fun σ151 h151 => ?_)
              obtain ⟨rfl, rfl, s_g12⟩ := h151
              have hf := xt2_s hf
              have r_g12 : mv_r g12 = mv_r h := s_g12.trans r_g5
              refine mv_goto (pc := 154) (tgt := 97) B d_Book_text_1_154 rfl ?_
              refine mv_lpick [0] rfl ?_
              exact ih97  _ r_g12 hf
          · skip
            have hf := xif_f h129 hf
            refine mv_aload_n (pc := 132) B d_Book_text_1_132 rfl 0 rfl ?_
            refine mv_iconst (pc := 133) (v := 1) B d_Book_text_1_133 (by decide) ?_
            obtain ⟨og14, g14, eg14, hf⟩ := xtb_e hf
            refine mv_callVUv (pc := 134) (n := 1) (ci := 12) (C := R_Book) B (mK_ok sk sv) hNs rfl rfl (ch_Book_newThing_y l hi _ (xrw r_g3 hb) _ eg14) rfl (ma_goodc kc_Book_newThing) (B.2.2.2.1 _ k_2190) (B.2.2.2.1 _ k_2192) (B.2.2.2.1 _ ks_93) (B.2.2.2.1 _ k_13) ⟨by decide +kernel, by decide +kernel, by decide +kernel⟩ rfl d_Book_text_1_134 rfl (Nat.le_of_ble_eq_true rfl) ⟨by first | decide | (dsimp only; omega), by first | decide | (dsimp only; omega)⟩ ⟨Nat.le_refl _, Nat.le_refl _⟩ ⟨Nat.le_refl _, Nat.le_refl _⟩ (mv_noH hno _) (fun τ9 g9 => Or.inr ⟨rfl, xth hf g9 r_g3⟩) (fun σ134 h134 => ?_)
            obtain ⟨rfl, rfl, s_g14⟩ := h134
            have hf := xt2_s hf
            have r_g14 : mv_r g14 = mv_r h := s_g14.trans r_g3
            refine mv_goto (pc := 137) (tgt := 97) B d_Book_text_1_137 rfl ?_
            refine mv_lpick [0] rfl ?_
            exact ih97  _ r_g14 hf
        · skip
          have hf := xif_f h111 hf
          refine mv_aload_n (pc := 114) B d_Book_text_1_114 rfl 0 rfl ?_
          refine mv_iconst (pc := 115) (v := 0) B d_Book_text_1_115 (by decide) ?_
          obtain ⟨og16, g16, eg16, hf⟩ := xtb_e hf
          refine mv_callVUv (pc := 116) (n := 1) (ci := 12) (C := R_Book) B (mK_ok sk sv) hNs rfl rfl (ch_Book_newThing_y l hi _ (xrw r_g1 hb) _ eg16) rfl (ma_goodc kc_Book_newThing) (B.2.2.2.1 _ k_2190) (B.2.2.2.1 _ k_2192) (B.2.2.2.1 _ ks_93) (B.2.2.2.1 _ k_13) ⟨by decide +kernel, by decide +kernel, by decide +kernel⟩ rfl d_Book_text_1_116 rfl (Nat.le_of_ble_eq_true rfl) ⟨by first | decide | (dsimp only; omega), by first | decide | (dsimp only; omega)⟩ ⟨Nat.le_refl _, Nat.le_refl _⟩ ⟨Nat.le_refl _, Nat.le_refl _⟩ (mv_noH hno _) (fun τ9 g9 => Or.inr ⟨rfl, xth hf g9 r_g1⟩) (fun σ116 h116 => ?_)
          obtain ⟨rfl, rfl, s_g16⟩ := h116
          have hf := xt2_s hf
          have r_g16 : mv_r g16 = mv_r h := s_g16.trans r_g1
          refine mv_goto (pc := 119) (tgt := 97) B d_Book_text_1_119 rfl ?_
          refine mv_lpick [0] rfl ?_
          exact ih97  _ r_g16 hf
  have jn81 : ∀ (x3 : Int32) (y0 : Int32) (hz : mv_H), mv_r hz = mv_r h → f_Book_text_1_81 108 x3 y0 hz = some (rv, rg) → mv_V p l e ({ frames := 1083, cells := 0, slots := 0, locals := 65132 }) s m ([.ref (al 108)] : List Value).toArray below meth c (mg dA D al ext) 4 0 0 (mv_Q (mg dA D al ext) below s 0 0 (mv_Uv (fun σ1 => rv = some 0 ∧ rg = σ1 ∧ mv_r σ1 = mv_r h) ("MachineLoomModel$Book$Wrong", al 141) (fun σ1 => rv = none ∧ rg = σ1 ∧ mv_r σ1 = mv_r h))) hz 81 [(0, .ref (al 108)), (3, .int x3)] [.int y0, .ref (al 108)] := by
    intro x3 y0 hz r_hz hf
    unfold f_Book_text_1_81 at hf
    refine mv_putI (pc := 81) (ci := 12) (C := R_Book) (T := F_Book) (N := 65) B 20 rfl rfl (by decide) i_Book t_Book_ok n_Book (B.2.2.2.1 _ k_1865) rfl rfl rfl rfl d_Book_text_1_81 ?_
    refine mvh_hp (R9 := mv_r h) hf r_hz (fun g18 hf r_g18 => ?_)
    refine mv_aload_n (pc := 84) B d_Book_text_1_84 rfl 0 rfl ?_
    refine mv_getI (pc := 85) (ci := 12) (C := R_Book) (T := F_Book) (N := 65) B 20 rfl rfl (by decide) i_Book (B.2.2.2.1 _ k_1865) rfl d_Book_text_1_85 ?_
    refine mv_if_ne (pc := 88) (tgt := 97) B d_Book_text_1_88 rfl (fun h88 => ?_) (fun h88 => ?_)
    · skip
      have hf := xif_f h88 hf
      refine mv_lpick [0] rfl ?_
      exact lp97 _  _ r_g18 hf
    · skip
      have hf := xif_t h88 hf
      refine mv_aload_n (pc := 91) B d_Book_text_1_91 rfl 0 rfl ?_
      refine mv_iconst (pc := 92) (v := 3) B d_Book_text_1_92 (by decide) ?_
      refine mv_iload_n (pc := 93) B d_Book_text_1_93 rfl 1 rfl ?_
      obtain ⟨g19, eg19, hf⟩ := xhv_e hf
      refine mv_callVv (pc := 94) (n := 2) (ci := 12) (C := R_Book) B (mK_ok sk sv) hNs rfl rfl (ch_Book_fault_y l hi _ _ _ eg19) rfl (ma_goodc kc_Book_fault) (B.2.2.2.1 _ k_2185) (B.2.2.2.1 _ k_2187) (B.2.2.2.1 _ ks_92) (B.2.2.2.1 _ k_13) ⟨by decide +kernel, by decide +kernel, by decide +kernel⟩ rfl d_Book_text_1_94 rfl (Nat.le_of_ble_eq_true rfl) ⟨by first | decide | (dsimp only; omega), by first | decide | (dsimp only; omega)⟩ ⟨Nat.le_refl _, Nat.le_refl _⟩ ⟨Nat.le_refl _, Nat.le_refl _⟩ (mv_noH hno _) (fun σ94 h94 => ?_)
      obtain ⟨rfl, s_g19⟩ := h94
      have r_g19 : mv_r g19 = mv_r h := s_g19.trans r_g18
      refine mv_lpick [0] rfl ?_
      exact lp97 _  _ r_g19 hf
  have jn75 : ∀ (x1 : Int64) (x3 : Int32) (hz : mv_H), mv_r hz = mv_r h → f_Book_text_1_75 108 x1 x3 hz = some (rv, rg) → mv_V p l e ({ frames := 1083, cells := 0, slots := 0, locals := 65132 }) s m ([.ref (al 108)] : List Value).toArray below meth c (mg dA D al ext) 4 0 0 (mv_Q (mg dA D al ext) below s 0 0 (mv_Uv (fun σ1 => rv = some 0 ∧ rg = σ1 ∧ mv_r σ1 = mv_r h) ("MachineLoomModel$Book$Wrong", al 141) (fun σ1 => rv = none ∧ rg = σ1 ∧ mv_r σ1 = mv_r h))) hz 75 [(0, .ref (al 108)), (1, .long x1), (3, .int x3)] [.ref (al 108)] := by
    intro x1 x3 hz r_hz hf
    unfold f_Book_text_1_75 at hf
    refine mv_lload_n (pc := 75) B d_Book_text_1_75 rfl 1 rfl ?_
    refine mv_l2i (pc := 76) B d_Book_text_1_76 ?_
    refine mv_goto (pc := 77) (tgt := 81) B d_Book_text_1_77 rfl ?_
    refine mv_lpick [0, 2] rfl ?_
    exact jn81 _ _ _ r_hz hf
  unfold f_Book_text_1 at hf
  refine mv_aload_n (pc := 0) B d_Book_text_1_0 rfl 0 rfl ?_
  refine mv_iconst (pc := 1) (v := 0) B d_Book_text_1_1 (by decide) ?_
  refine mv_putI (pc := 2) (ci := 12) (C := R_Book) (T := F_Book) (N := 65) B 3 rfl rfl (by decide) i_Book t_Book_ok n_Book (B.2.2.2.1 _ k_1846) rfl rfl rfl rfl d_Book_text_1_2 ?_
  refine mvh_hp (R9 := mv_r h) hf rfl (fun g21 hf r_g21 => ?_)
  refine mv_aload_n (pc := 5) B d_Book_text_1_5 rfl 0 rfl ?_
  refine mv_iconst (pc := 6) (v := 0) B d_Book_text_1_6 (by decide) ?_
  refine mv_putI (pc := 7) (ci := 12) (C := R_Book) (T := F_Book) (N := 65) B 8 rfl rfl (by decide) i_Book t_Book_ok n_Book (B.2.2.2.1 _ k_1851) rfl rfl rfl rfl d_Book_text_1_7 ?_
  refine mvh_hp (R9 := mv_r h) hf r_g21 (fun g22 hf r_g22 => ?_)
  refine mv_aload_n (pc := 10) B d_Book_text_1_10 rfl 0 rfl ?_
  obtain ⟨og23, g23, eg23, hf⟩ := xtb_e hf
  refine mv_callVUv (pc := 11) (n := 0) (ci := 12) (C := R_Book) B (mK_ok sk sv) hNs rfl rfl (ch_Book_next_y l hi _ (xrw r_g22 hb) eg23) rfl (ma_goodc kc_Book_next) (B.2.2.2.1 _ k_2114) (B.2.2.2.1 _ k_2116) (B.2.2.2.1 _ ks_80) (B.2.2.2.1 _ k_13) ⟨by decide +kernel, by decide +kernel, by decide +kernel⟩ rfl d_Book_text_1_11 rfl (Nat.le_of_ble_eq_true rfl) ⟨by first | decide | (dsimp only; omega), by first | decide | (dsimp only; omega)⟩ ⟨Nat.le_refl _, Nat.le_refl _⟩ ⟨Nat.le_refl _, Nat.le_refl _⟩ (mv_noH hno _) (fun τ9 g9 => Or.inr ⟨rfl, xth hf g9 r_g22⟩) (fun σ11 h11 => ?_)
  obtain ⟨rfl, rfl, s_g23⟩ := h11
  have hf := xt2_s hf
  have r_g23 : mv_r g23 = mv_r h := s_g23.trans r_g22
  refine mv_aload_n (pc := 14) B d_Book_text_1_14 rfl 0 rfl ?_
  refine mv_ldcwS (pc := 15) B (hNs.2.1 139 (by decide)).1 d_Book_text_1_15 ?_
  obtain ⟨og25, g25, eg25, hf⟩ := xtb_e hf
  refine mv_callVUv (pc := 18) (n := 1) (ci := 12) (C := R_Book) B (mK_ok sk sv) hNs rfl rfl (ch_Book_needWord_y l hi _ (xrw r_g23 hb) _ (by decide) eg25) rfl (ma_goodc kc_Book_needWord) (B.2.2.2.1 _ k_2159) (B.2.2.2.1 _ k_2161) (B.2.2.2.1 _ ks_87) (B.2.2.2.1 _ k_13) ⟨by decide +kernel, by decide +kernel, by decide +kernel⟩ rfl d_Book_text_1_18 rfl (Nat.le_of_ble_eq_true rfl) ⟨by first | decide | (dsimp only; omega), by first | decide | (dsimp only; omega)⟩ ⟨Nat.le_refl _, Nat.le_refl _⟩ ⟨Nat.le_refl _, Nat.le_refl _⟩ (mv_noH hno _) (fun τ9 g9 => Or.inr ⟨rfl, xth hf g9 r_g23⟩) (fun σ18 h18 => ?_)
  obtain ⟨rfl, rfl, s_g25⟩ := h18
  have hf := xt2_s hf
  have r_g25 : mv_r g25 = mv_r h := s_g25.trans r_g23
  refine mv_aload_n (pc := 21) B d_Book_text_1_21 rfl 0 rfl ?_
  refine mv_getL (pc := 22) (ci := 12) (C := R_Book) (T := F_Book) (N := 65) B 9 rfl rfl (by decide) i_Book (B.2.2.2.1 _ k_1852) rfl d_Book_text_1_22 ?_
  refine mv_lstore_n (pc := 25) B d_Book_text_1_25 rfl (by decide) rfl ?_
  refine mv_aload_n (pc := 26) B d_Book_text_1_26 rfl 1 rfl ?_
  refine mv_getI (pc := 27) (ci := 12) (C := R_Book) (T := F_Book) (N := 65) B 5 rfl rfl (by decide) i_Book (B.2.2.2.1 _ k_1848) rfl d_Book_text_1_27 ?_
  refine mv_istore_n (pc := 30) B d_Book_text_1_30 rfl (by decide) rfl ?_
  refine mv_aload_n (pc := 31) B d_Book_text_1_31 rfl 2 rfl ?_
  refine mv_iconst (pc := 32) (v := 2) B d_Book_text_1_32 (by decide) ?_
  obtain ⟨og27, g27, eg27, hf⟩ := xtb_e hf
  refine mv_callVUv (pc := 33) (n := 1) (ci := 12) (C := R_Book) B (mK_ok sk sv) hNs rfl rfl (ch_Book_need_y l hi _ (xrw r_g25 hb) _ eg27) rfl (ma_goodc kc_Book_need) (B.2.2.2.1 _ k_2177) (B.2.2.2.1 _ k_2179) (B.2.2.2.1 _ ks_91) (B.2.2.2.1 _ k_13) ⟨by decide +kernel, by decide +kernel, by decide +kernel⟩ rfl d_Book_text_1_33 rfl (Nat.le_of_ble_eq_true rfl) ⟨by first | decide | (dsimp only; omega), by first | decide | (dsimp only; omega)⟩ ⟨Nat.le_refl _, Nat.le_refl _⟩ ⟨Nat.le_refl _, Nat.le_refl _⟩ (mv_noH hno _) (fun τ9 g9 => Or.inr ⟨rfl, xth hf g9 r_g25⟩) (fun σ33 h33 => ?_)
  obtain ⟨rfl, rfl, s_g27⟩ := h33
  have hf := xt2_s hf
  have r_g27 : mv_r g27 = mv_r h := s_g27.trans r_g25
  refine mv_aload_n (pc := 36) B d_Book_text_1_36 rfl 2 rfl ?_
  refine mv_bipush (pc := 37) (v := 59) B d_Book_text_1_37 (by decide) ?_
  obtain ⟨og29, g29, eg29, hf⟩ := xtb_e hf
  refine mv_callVUv (pc := 39) (n := 1) (ci := 12) (C := R_Book) B (mK_ok sk sv) hNs rfl rfl (ch_Book_need_y l hi _ (xrw r_g27 hb) _ eg29) rfl (ma_goodc kc_Book_need) (B.2.2.2.1 _ k_2177) (B.2.2.2.1 _ k_2179) (B.2.2.2.1 _ ks_91) (B.2.2.2.1 _ k_13) ⟨by decide +kernel, by decide +kernel, by decide +kernel⟩ rfl d_Book_text_1_39 rfl (Nat.le_of_ble_eq_true rfl) ⟨by first | decide | (dsimp only; omega), by first | decide | (dsimp only; omega)⟩ ⟨Nat.le_refl _, Nat.le_refl _⟩ ⟨Nat.le_refl _, Nat.le_refl _⟩ (mv_noH hno _) (fun τ9 g9 => Or.inr ⟨rfl, xth hf g9 r_g27⟩) (fun σ39 h39 => ?_)
  obtain ⟨rfl, rfl, s_g29⟩ := h39
  have hf := xt2_s hf
  have r_g29 : mv_r g29 = mv_r h := s_g29.trans r_g27
  refine mv_aload_n (pc := 42) B d_Book_text_1_42 rfl 2 rfl ?_
  refine mv_lload_n (pc := 43) B d_Book_text_1_43 rfl 1 rfl ?_
  refine mv_ldc2 (pc := 44) (v := 8) B (B.2.2.2.1 _ k_2181) d_Book_text_1_44 ?_
  refine mv_lcmp (pc := 47) B d_Book_text_1_47 ?_
  refine mv_if_eq (pc := 48) (tgt := 75) B d_Book_text_1_48 rfl (fun h48 => ?_) (fun h48 => ?_)
  · skip
    have hf := xif_t h48 hf
    refine mv_lpick [2, 1, 0] rfl ?_
    exact jn75 _ _ _ r_g29 hf
  · skip
    have hf := xif_f h48 hf
    refine mv_lload_n (pc := 51) B d_Book_text_1_51 rfl 1 rfl ?_
    refine mv_ldc2 (pc := 52) (v := 16) B (B.2.2.2.1 _ k_2182) d_Book_text_1_52 ?_
    refine mv_lcmp (pc := 55) B d_Book_text_1_55 ?_
    refine mv_if_eq (pc := 56) (tgt := 75) B d_Book_text_1_56 rfl (fun h56 => ?_) (fun h56 => ?_)
    · skip
      have hf := xif_t h56 hf
      refine mv_lpick [2, 1, 0] rfl ?_
      exact jn75 _ _ _ r_g29 hf
    · skip
      have hf := xif_f h56 hf
      refine mv_lload_n (pc := 59) B d_Book_text_1_59 rfl 1 rfl ?_
      refine mv_ldc2 (pc := 60) (v := 32) B (B.2.2.2.1 _ k_2183) d_Book_text_1_60 ?_
      refine mv_lcmp (pc := 63) B d_Book_text_1_63 ?_
      refine mv_if_eq (pc := 64) (tgt := 75) B d_Book_text_1_64 rfl (fun h64 => ?_) (fun h64 => ?_)
      · skip
        have hf := xif_t h64 hf
        refine mv_lpick [2, 1, 0] rfl ?_
        exact jn75 _ _ _ r_g29 hf
      · skip
        have hf := xif_f h64 hf
        refine mv_lload_n (pc := 67) B d_Book_text_1_67 rfl 1 rfl ?_
        refine mv_ldc2 (pc := 68) (v := 64) B (B.2.2.2.1 _ k_2184) d_Book_text_1_68 ?_
        refine mv_lcmp (pc := 71) B d_Book_text_1_71 ?_
        refine mv_if_ne (pc := 72) (tgt := 80) B d_Book_text_1_72 rfl (fun h72 => ?_) (fun h72 => ?_)
        · skip
          have hf := xif_f h72 hf
          refine mv_iconst (pc := 80) (v := 0) B d_Book_text_1_80 (by decide) ?_
          refine mv_lpick [2, 0] rfl ?_
          exact jn81 _ _ _ r_g29 hf
        · skip
          have hf := xif_t h72 hf
          refine mv_lpick [2, 1, 0] rfl ?_
          exact jn75 _ _ _ r_g29 hf
